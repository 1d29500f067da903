def J_L_number_27l6 (self : Int32 → Int32 → (Nat → Ob) → Option (Int32 × (Nat → Ob))) (x1 : Int32) (x2 : Int32) (x4 : Int32) (X : (Nat → Ob)) : Option (Int32 × (Nat → Ob)) := gd (decide (¬ x4 = (0 : Int32))) (bd (f_X7_write X (1 : Int32) (((48 : Int32) + ((x1 / x4) - (x1 / x4) / (10 : Int32) * (10 : Int32))).toInt64)) (fun z2 => if z2.1 ≤ (0 : Int32) then nm (x4 / (10 : Int32)) (fun v3 => self (0 : Int32) v3 z2.2) else nm (x4 / (10 : Int32)) (fun v4 => self (1 : Int32) v4 z2.2)))
def L_L_number_6_step (x1 : Int32) (x2 : Int32) (self : Int32 → Int32 → (Nat → Ob) → Option (Int32 × (Nat → Ob))) (x3 : Int32) (x4 : Int32) (X : (Nat → Ob)) : Option (Int32 × (Nat → Ob)) := if x4 ≤ (0 : Int32) then some (x3, X) else if x3 = (0 : Int32) then nm (x4 / (10 : Int32)) (fun v1 => self (0 : Int32) v1 X) else if x4 ≤ x1 then J_L_number_27l6 self x1 x2 x4 X else if (1 : Int32) < x4 then nm (x4 / (10 : Int32)) (fun v2 => self (1 : Int32) v2 X) else J_L_number_27l6 self x1 x2 x4 X
def L_L_number_6 (x1 : Int32) (x2 : Int32) : Nat → Int32 → Int32 → (Nat → Ob) → Option (Int32 × (Nat → Ob))
  | 0 => fun _ _ _ => none
  | n + 1 => fun x3 x4 X => L_L_number_6_step x1 x2 (L_L_number_6 x1 x2 n) x3 x4 X
def f_L_number (X : (Nat → Ob)) (x1 : Int32) (x2 : Int32) : Option (Int32 × (Nat → Ob)) := bd (L_L_number_6 x1 x2 512 (1 : Int32) (100 : Int32) X) (fun z1 => if z1.1 = (0 : Int32) then some ((0 : Int32), z1.2) else bd (f_X7_write z1.2 (1 : Int32) x2.toInt64) (fun z2 => if z2.1 ≤ (0 : Int32) then some ((0 : Int32), z2.2) else some ((1 : Int32), z2.2)))
abbrev rmL_number : Room := ({ frames := 2, cells := 0, slots := 0, locals := 45 } : Room)
set_option maxHeartbeats 4000000 in
set_option maxRecDepth 100000 in
theorem c_L_number (l : Launch) (D : va_G) (cA : ClassId) (ad : (Nat → Nat → Nat)) (X : (Nat → Ob)) (x1 : Int32) (x2 : Int32) (r : Int32) (X_ : (Nat → Ob)) (h : f_L_number X x1 x2 = some (r, X_)) : ConW l yL_number wsL_number rmL_number D cA [.ref (ad 6 0), .int x1, .int x2] (wX7 cA ad X) r (wX7 cA ad X_) := by
  refine ConWZ.enter (cc := cL_number) (maxL := 5) (by decide) rfl (Nat.le_of_ble_eq_true rfl) ?_
  intro p e s m args below meth c Q A hx hb hml hown hts hK hP hD hA hend ls hl
  have hS : va_S A s.heap s.heap [] := va_S.rf
  have hl : lv_has ls 5 [(0, .ref (ad 6 0)), (1, .int x1), (2, .int x2)] := hl
  unfold f_L_number at h
  have LP6 : ∀ (x1 : Int32) (x2 : Int32) (n : Nat) (x3 : Int32) (x4 : Int32) (X : (Nat → Ob)) (H : Heap) (locs : List Loc) (_ : va_P D vwCl (wX7 cA ad X) H) (_ : va_D A (wX7 cA ad X)) (_ : va_S A s.heap H locs) (ls : Array Slot) (_ : lv_has ls 5 [(0, .ref (ad 6 0)), (1, .int x1), (2, .int x2), (3, .int x3), (4, .int x4)]) (res : Int32 × (Nat → Ob)) (_ : L_L_number_6 x1 x2 n x3 x4 X = some res) (_ : (∀ (H : Heap) (locs : List Loc) (_ : va_P D vwCl (wX7 cA ad res.2) H) (_ : va_D A (wX7 cA ad res.2)) (_ : va_S A s.heap H locs) (ls : Array Slot), lv_has ls 5 [(0, .ref (ad 6 0)), (2, .int x2), (3, .int res.1)] → W p l e rmL_number s m args below meth c H locs 0 0 Q (F0 m 62 ls []))), W p l e rmL_number s m args below meth c H locs 0 0 Q (F0 m 6 ls []) := by
    intro x1 x2 n
    induction n with
    | zero =>
      intro x3 x4 X H locs hP hD hS ls hl res h K0
      exact absurd h (fun q : (none : Option (Int32 × (Nat → Ob))) = some res => by cases q)
    | succ n ih =>
      intro x3 x4 X H locs hP hD hS ls hl res h K0
      have h : L_L_number_6_step x1 x2 (L_L_number_6 x1 x2 n) x3 x4 X = some res := h
      unfold L_L_number_6_step at h
      have JP6_27 : ∀ (x4 : Int32) (X : (Nat → Ob)) (H : Heap) (locs : List Loc) (_ : va_P D vwCl (wX7 cA ad X) H) (_ : va_D A (wX7 cA ad X)) (_ : va_S A s.heap H locs) (ls : Array Slot) (_ : lv_has ls 5 [(0, .ref (ad 6 0)), (1, .int x1), (2, .int x2), (4, .int x4)]) (_ : J_L_number_27l6 (L_L_number_6 x1 x2 n) x1 x2 x4 X = some res), W p l e rmL_number s m args below meth c H locs 0 0 Q (F0 m 27 ls []) := by
        intro x4 X H locs hP hD hS ls hl h
        unfold J_L_number_27l6 at h
        refine lv_aload_n hx hb dL_number_27 rfl (lv_at hl 0 rfl) ?_
        refine lv_iconst (v := (1 : Int32)) hx hb dL_number_28 (by decide) ?_
        refine lv_bipush (v := (48 : Int32)) hx hb dL_number_29 (by decide) ?_
        refine lv_iload_n hx hb dL_number_31 rfl (lv_at hl 1 rfl) ?_
        refine lv_iload hx hb dL_number_32 (lv_at hl 3 rfl) ?_
        obtain ⟨hn1, h⟩ := gd_some h
        refine lv_idiv hx hb dL_number_34 (of_decide_eq_true hn1) ?_
        refine lv_bipush (v := (10 : Int32)) hx hb dL_number_35 (by decide) ?_
        refine lv_irem hx hb dL_number_37 (by decide) ?_
        refine lv_iadd hx hb dL_number_38 ?_
        refine lv_i2l hx hb dL_number_39 rfl ?_
        obtain ⟨z2, hz2, h⟩ := bd_some h
        refine pW_V (As := [.int (1 : Int32), .long (((48 : Int32) + ((x1 / x4) - (x1 / x4) / (10 : Int32) * (10 : Int32))).toInt64)]) (rest := []) (wr := ([] : va_W)) (wn := (wX7 cA ad z2.2)) ⟨hx, hb, hml, hown, hts⟩ (c_X7_write l D cA ad X (1 : Int32) (((48 : Int32) + ((x1 / x4) - (x1 / x4) / (10 : Int32) * (10 : Int32))).toInt64) z2.1 z2.2 hz2) (cwV 2 hts gL_number_X7_write rfl rfl rfl hd_X7_write ⟨(Nat.le_of_ble_eq_true rfl), (Nat.le_of_ble_eq_true rfl)⟩) (recvK hK hP 0 7 rfl rfl) hK hP hD hS hA perm_nil (by rw [List.append_nil]) rfl hl.1 rfl (Nat.le_of_ble_eq_true rfl) dL_number_40 ⟨(Nat.le_of_ble_eq_true rfl), (Nat.le_of_ble_eq_true rfl)⟩ (fun H locs hP hD hS => ?_)
        refine lv_if_le (tgt := 50) hx hb dL_number_43 (by decide) (fun hc => ?_) (fun hc => ?_)
        · have h := if_t hc h
          refine lv_iconst (v := (0 : Int32)) hx hb dL_number_50 (by decide) ?_
          refine lv_istore_n (lv' := [(3, .int (0 : Int32)), (0, .ref (ad 6 0)), (1, .int x1), (2, .int x2), (4, .int x4)]) hx hb dL_number_51 rfl hl (by decide) rfl (fun ls hl => ?_)
          refine lv_iload hx hb dL_number_52 (lv_at hl 4 rfl) ?_
          refine lv_bipush (v := (10 : Int32)) hx hb dL_number_54 (by decide) ?_
          refine lv_idiv hx hb dL_number_56 (by decide) ?_
          refine lv_topi (fun v3 ev3 => ?_)
          have h := nm_ap ev3 h
          refine lv_istore (lv' := [(4, .int v3), (3, .int (0 : Int32)), (0, .ref (ad 6 0)), (1, .int x1), (2, .int x2)]) hx hb dL_number_57 hl (by decide) rfl (fun ls hl => ?_)
          refine lv_goto (tgt := 6) hx hb dL_number_59 (by decide) ?_
          exact ih (0 : Int32) v3 z2.2 _ _ hP hD hS ls (lv_sub hl [2, 3, 4, 1, 0] rfl) _ h K0
        · have h := if_f hc h
          refine lv_iconst (v := (1 : Int32)) hx hb dL_number_46 (by decide) ?_
          refine lv_goto (tgt := 51) hx hb dL_number_47 (by decide) ?_
          refine lv_istore_n (lv' := [(3, .int (1 : Int32)), (0, .ref (ad 6 0)), (1, .int x1), (2, .int x2), (4, .int x4)]) hx hb dL_number_51 rfl hl (by decide) rfl (fun ls hl => ?_)
          refine lv_iload hx hb dL_number_52 (lv_at hl 4 rfl) ?_
          refine lv_bipush (v := (10 : Int32)) hx hb dL_number_54 (by decide) ?_
          refine lv_idiv hx hb dL_number_56 (by decide) ?_
          refine lv_topi (fun v4 ev4 => ?_)
          have h := nm_ap ev4 h
          refine lv_istore (lv' := [(4, .int v4), (3, .int (1 : Int32)), (0, .ref (ad 6 0)), (1, .int x1), (2, .int x2)]) hx hb dL_number_57 hl (by decide) rfl (fun ls hl => ?_)
          refine lv_goto (tgt := 6) hx hb dL_number_59 (by decide) ?_
          exact ih (1 : Int32) v4 z2.2 _ _ hP hD hS ls (lv_sub hl [2, 3, 4, 1, 0] rfl) _ h K0
      refine lv_iload hx hb dL_number_6 (lv_at hl 4 rfl) ?_
      refine lv_if_le (tgt := 62) hx hb dL_number_8 (by decide) (fun hc => ?_) (fun hc => ?_)
      · have h := if_t hc h
        cases h
        exact K0 _ _ hP hD hS _ (lv_sub hl [0, 2, 3] rfl)
      · have h := if_f hc h
        refine lv_iload_n hx hb dL_number_11 rfl (lv_at hl 3 rfl) ?_
        refine lv_if_eq (tgt := 50) hx hb dL_number_12 (by decide) (fun hc => ?_) (fun hc => ?_)
        · have h := if_t hc h
          refine lv_iconst (v := (0 : Int32)) hx hb dL_number_50 (by decide) ?_
          refine lv_istore_n (lv' := [(3, .int (0 : Int32)), (0, .ref (ad 6 0)), (1, .int x1), (2, .int x2), (4, .int x4)]) hx hb dL_number_51 rfl hl (by decide) rfl (fun ls hl => ?_)
          refine lv_iload hx hb dL_number_52 (lv_at hl 4 rfl) ?_
          refine lv_bipush (v := (10 : Int32)) hx hb dL_number_54 (by decide) ?_
          refine lv_idiv hx hb dL_number_56 (by decide) ?_
          refine lv_topi (fun v1 ev1 => ?_)
          have h := nm_ap ev1 h
          refine lv_istore (lv' := [(4, .int v1), (3, .int (0 : Int32)), (0, .ref (ad 6 0)), (1, .int x1), (2, .int x2)]) hx hb dL_number_57 hl (by decide) rfl (fun ls hl => ?_)
          refine lv_goto (tgt := 6) hx hb dL_number_59 (by decide) ?_
          exact ih (0 : Int32) v1 X _ _ hP hD hS ls (lv_sub hl [2, 3, 4, 1, 0] rfl) _ h K0
        · have h := if_f hc h
          refine lv_iload_n hx hb dL_number_15 rfl (lv_at hl 1 rfl) ?_
          refine lv_iload hx hb dL_number_16 (lv_at hl 4 rfl) ?_
          refine lv_icmp_ge (tgt := 27) hx hb dL_number_18 (by decide) (fun hc => ?_) (fun hc => ?_)
          · have h := if_t hc h
            exact JP6_27 x4 X _ _ hP hD hS ls (lv_sub hl [0, 1, 2, 4] rfl) h
          · have h := if_f hc h
            refine lv_iload hx hb dL_number_21 (lv_at hl 4 rfl) ?_
            refine lv_iconst (v := (1 : Int32)) hx hb dL_number_23 (by decide) ?_
            refine lv_icmp_gt (tgt := 46) hx hb dL_number_24 (by decide) (fun hc => ?_) (fun hc => ?_)
            · have h := if_t hc h
              refine lv_iconst (v := (1 : Int32)) hx hb dL_number_46 (by decide) ?_
              refine lv_goto (tgt := 51) hx hb dL_number_47 (by decide) ?_
              refine lv_istore_n (lv' := [(3, .int (1 : Int32)), (0, .ref (ad 6 0)), (1, .int x1), (2, .int x2), (4, .int x4)]) hx hb dL_number_51 rfl hl (by decide) rfl (fun ls hl => ?_)
              refine lv_iload hx hb dL_number_52 (lv_at hl 4 rfl) ?_
              refine lv_bipush (v := (10 : Int32)) hx hb dL_number_54 (by decide) ?_
              refine lv_idiv hx hb dL_number_56 (by decide) ?_
              refine lv_topi (fun v2 ev2 => ?_)
              have h := nm_ap ev2 h
              refine lv_istore (lv' := [(4, .int v2), (3, .int (1 : Int32)), (0, .ref (ad 6 0)), (1, .int x1), (2, .int x2)]) hx hb dL_number_57 hl (by decide) rfl (fun ls hl => ?_)
              refine lv_goto (tgt := 6) hx hb dL_number_59 (by decide) ?_
              exact ih (1 : Int32) v2 X _ _ hP hD hS ls (lv_sub hl [2, 3, 4, 1, 0] rfl) _ h K0
            · have h := if_f hc h
              exact JP6_27 x4 X _ _ hP hD hS ls (lv_sub hl [0, 1, 2, 4] rfl) h
  refine lv_iconst (v := (1 : Int32)) hx hb dL_number_0 (by decide) ?_
  refine lv_istore_n (lv' := [(3, .int (1 : Int32)), (0, .ref (ad 6 0)), (1, .int x1), (2, .int x2)]) hx hb dL_number_1 rfl hl (by decide) rfl (fun ls hl => ?_)
  refine lv_bipush (v := (100 : Int32)) hx hb dL_number_2 (by decide) ?_
  refine lv_istore (lv' := [(4, .int (100 : Int32)), (3, .int (1 : Int32)), (0, .ref (ad 6 0)), (1, .int x1), (2, .int x2)]) hx hb dL_number_4 hl (by decide) rfl (fun ls hl => ?_)
  obtain ⟨z1, hz1, h⟩ := bd_some h
  refine LP6 x1 x2 512 (1 : Int32) (100 : Int32) X _ _ hP hD hS ls (lv_sub hl [2, 3, 4, 1, 0] rfl) _ hz1 ?_
  · intro H locs hP hD hS ls hl
    refine lv_iload_n hx hb dL_number_62 rfl (lv_at hl 2 rfl) ?_
    refine lv_if_eq (tgt := 80) hx hb dL_number_63 (by decide) (fun hc => ?_) (fun hc => ?_)
    · have h := if_t hc h
      refine lv_iconst (v := (0 : Int32)) hx hb dL_number_80 (by decide) ?_
      cases h
      exact hend _ _ _ _ (by decide) hP hD hS dL_number_81
    · have h := if_f hc h
      refine lv_aload_n hx hb dL_number_66 rfl (lv_at hl 0 rfl) ?_
      refine lv_iconst (v := (1 : Int32)) hx hb dL_number_67 (by decide) ?_
      refine lv_iload_n hx hb dL_number_68 rfl (lv_at hl 1 rfl) ?_
      refine lv_i2l hx hb dL_number_69 rfl ?_
      obtain ⟨z2, hz2, h⟩ := bd_some h
      refine pW_V (As := [.int (1 : Int32), .long x2.toInt64]) (rest := []) (wr := ([] : va_W)) (wn := (wX7 cA ad z2.2)) ⟨hx, hb, hml, hown, hts⟩ (c_X7_write l D cA ad z1.2 (1 : Int32) x2.toInt64 z2.1 z2.2 hz2) (cwV 2 hts gL_number_X7_write rfl rfl rfl hd_X7_write ⟨(Nat.le_of_ble_eq_true rfl), (Nat.le_of_ble_eq_true rfl)⟩) (recvK hK hP 0 7 rfl rfl) hK hP hD hS hA perm_nil (by rw [List.append_nil]) rfl hl.1 rfl (Nat.le_of_ble_eq_true rfl) dL_number_70 ⟨(Nat.le_of_ble_eq_true rfl), (Nat.le_of_ble_eq_true rfl)⟩ (fun H locs hP hD hS => ?_)
      refine lv_if_le (tgt := 80) hx hb dL_number_73 (by decide) (fun hc => ?_) (fun hc => ?_)
      · have h := if_t hc h
        refine lv_iconst (v := (0 : Int32)) hx hb dL_number_80 (by decide) ?_
        cases h
        exact hend _ _ _ _ (by decide) hP hD hS dL_number_81
      · have h := if_f hc h
        refine lv_iconst (v := (1 : Int32)) hx hb dL_number_76 (by decide) ?_
        refine lv_goto (tgt := 81) hx hb dL_number_77 (by decide) ?_
        cases h
        exact hend _ _ _ _ (by decide) hP hD hS dL_number_81
def J_L_item_91l20 (self : Int32 → Int32 → (Nat → Ob) → Option (Int32 × (Nat → Ob))) (k1 : Int32) (k2 : Int32) (x2 : Int32) (x3 : Int32) (x4 : Int32) (x5 : Int32) (x6 : Int32) (x7 : Int32) (x9 : Int32) (X : (Nat → Ob)) : Option (Int32 × (Nat → Ob)) := bd (f_L_number X k1 k2) (fun z1 => if z1.1 = (0 : Int32) then nm (x9 + (1 : Int32)) (fun v2 => self (0 : Int32) v2 z1.2) else nm (x9 + (1 : Int32)) (fun v3 => self (1 : Int32) v3 z1.2))
def J_L_item_76l20 (self : Int32 → Int32 → (Nat → Ob) → Option (Int32 × (Nat → Ob))) (k1 : Int32) (x2 : Int32) (x3 : Int32) (x4 : Int32) (x5 : Int32) (x6 : Int32) (x7 : Int32) (x9 : Int32) (X : (Nat → Ob)) : Option (Int32 × (Nat → Ob)) := if x2 - (1 : Int32) ≤ x9 then J_L_item_91l20 self k1 (59 : Int32) x2 x3 x4 x5 x6 x7 x9 X else J_L_item_91l20 self k1 (44 : Int32) x2 x3 x4 x5 x6 x7 x9 X
def L_L_item_20_step (x2 : Int32) (x3 : Int32) (x4 : Int32) (x5 : Int32) (x6 : Int32) (x7 : Int32) (self : Int32 → Int32 → (Nat → Ob) → Option (Int32 × (Nat → Ob))) (x8 : Int32) (x9 : Int32) (X : (Nat → Ob)) : Option (Int32 × (Nat → Ob)) := if x2 ≤ x9 then some (x8, X) else if x8 = (0 : Int32) then nm (x9 + (1 : Int32)) (fun v1 => self (0 : Int32) v1 X) else if x9 = (0 : Int32) then J_L_item_76l20 self x3 x2 x3 x4 x5 x6 x7 x9 X else if x9 = (1 : Int32) then J_L_item_76l20 self x4 x2 x3 x4 x5 x6 x7 x9 X else if x9 = (2 : Int32) then J_L_item_76l20 self x5 x2 x3 x4 x5 x6 x7 x9 X else if x9 = (3 : Int32) then J_L_item_76l20 self x6 x2 x3 x4 x5 x6 x7 x9 X else J_L_item_76l20 self x7 x2 x3 x4 x5 x6 x7 x9 X
def L_L_item_20 (x2 : Int32) (x3 : Int32) (x4 : Int32) (x5 : Int32) (x6 : Int32) (x7 : Int32) : Nat → Int32 → Int32 → (Nat → Ob) → Option (Int32 × (Nat → Ob))
  | 0 => fun _ _ _ => none
  | n + 1 => fun x8 x9 X => L_L_item_20_step x2 x3 x4 x5 x6 x7 (L_L_item_20 x2 x3 x4 x5 x6 x7 n) x8 x9 X
def f_L_item (X : (Nat → Ob)) (x1 : Int32) (x2 : Int32) (x3 : Int32) (x4 : Int32) (x5 : Int32) (x6 : Int32) (x7 : Int32) : Option (Int32 × (Nat → Ob)) := bd (f_X7_write X (1 : Int32) x1.toInt64) (fun z1 => if z1.1 ≤ (0 : Int32) then bd (L_L_item_20 x2 x3 x4 x5 x6 x7 512 (0 : Int32) (0 : Int32) z1.2) (fun z2 => gd (ckz z2.1) (some (z2.1, z2.2))) else bd (L_L_item_20 x2 x3 x4 x5 x6 x7 512 (1 : Int32) (0 : Int32) z1.2) (fun z3 => gd (ckz z3.1) (some (z3.1, z3.2))))
abbrev rmL_item : Room := ({ frames := 3, cells := 0, slots := 0, locals := 69 } : Room)
set_option maxHeartbeats 4000000 in
set_option maxRecDepth 100000 in
theorem c_L_item (l : Launch) (D : va_G) (cA : ClassId) (ad : (Nat → Nat → Nat)) (X : (Nat → Ob)) (x1 : Int32) (x2 : Int32) (x3 : Int32) (x4 : Int32) (x5 : Int32) (x6 : Int32) (x7 : Int32) (r : Int32) (X_ : (Nat → Ob)) (h : f_L_item X x1 x2 x3 x4 x5 x6 x7 = some (r, X_)) : ConW l yL_item wsL_item rmL_item D cA [.ref (ad 6 0), .int x1, .int x2, .int x3, .int x4, .int x5, .int x6, .int x7] (wX7 cA ad X) r (wX7 cA ad X_) := by
  refine ConWZ.enter (cc := cL_item) (maxL := 10) (by decide) rfl (Nat.le_of_ble_eq_true rfl) ?_
  intro p e s m args below meth c Q A hx hb hml hown hts hK hP hD hA hend ls hl
  have hS : va_S A s.heap s.heap [] := va_S.rf
  have hl : lv_has ls 10 [(0, .ref (ad 6 0)), (1, .int x1), (2, .int x2), (3, .int x3), (4, .int x4), (5, .int x5), (6, .int x6), (7, .int x7)] := hl
  unfold f_L_item at h
  have LP20 : ∀ (x2 : Int32) (x3 : Int32) (x4 : Int32) (x5 : Int32) (x6 : Int32) (x7 : Int32) (n : Nat) (x8 : Int32) (x9 : Int32) (X : (Nat → Ob)) (H : Heap) (locs : List Loc) (_ : va_P D vwCl (wX7 cA ad X) H) (_ : va_D A (wX7 cA ad X)) (_ : va_S A s.heap H locs) (ls : Array Slot) (_ : lv_has ls 10 [(0, .ref (ad 6 0)), (2, .int x2), (3, .int x3), (4, .int x4), (5, .int x5), (6, .int x6), (7, .int x7), (8, .int x8), (9, .int x9)]) (res : Int32 × (Nat → Ob)) (_ : L_L_item_20 x2 x3 x4 x5 x6 x7 n x8 x9 X = some res) (_ : (∀ (H : Heap) (locs : List Loc) (_ : va_P D vwCl (wX7 cA ad res.2) H) (_ : va_D A (wX7 cA ad res.2)) (_ : va_S A s.heap H locs) (ls : Array Slot), lv_has ls 10 [(8, .int res.1)] → W p l e rmL_item s m args below meth c H locs 0 0 Q (F0 m 110 ls []))), W p l e rmL_item s m args below meth c H locs 0 0 Q (F0 m 20 ls []) := by
    intro x2 x3 x4 x5 x6 x7 n
    induction n with
    | zero =>
      intro x8 x9 X H locs hP hD hS ls hl res h K0
      exact absurd h (fun q : (none : Option (Int32 × (Nat → Ob))) = some res => by cases q)
    | succ n ih =>
      intro x8 x9 X H locs hP hD hS ls hl res h K0
      have h : L_L_item_20_step x2 x3 x4 x5 x6 x7 (L_L_item_20 x2 x3 x4 x5 x6 x7 n) x8 x9 X = some res := h
      unfold L_L_item_20_step at h
      have JP20_91 : ∀ (k1 : Int32) (k2 : Int32) (x9 : Int32) (X : (Nat → Ob)) (H : Heap) (locs : List Loc) (_ : va_P D vwCl (wX7 cA ad X) H) (_ : va_D A (wX7 cA ad X)) (_ : va_S A s.heap H locs) (ls : Array Slot) (_ : lv_has ls 10 [(0, .ref (ad 6 0)), (2, .int x2), (3, .int x3), (4, .int x4), (5, .int x5), (6, .int x6), (7, .int x7), (9, .int x9)]) (_ : J_L_item_91l20 (L_L_item_20 x2 x3 x4 x5 x6 x7 n) k1 k2 x2 x3 x4 x5 x6 x7 x9 X = some res), W p l e rmL_item s m args below meth c H locs 0 0 Q (F0 m 91 ls [.int k2, .int k1, .ref (ad 6 0)]) := by
        intro k1 k2 x9 X H locs hP hD hS ls hl h
        unfold J_L_item_91l20 at h
        obtain ⟨z1, hz1, h⟩ := bd_some h
        refine pW_S (As := [.ref (ad 6 0), .int k1, .int k2]) (rest := []) (wr := ([] : va_W)) (wn := (wX7 cA ad z1.2)) ⟨hx, hb, hml, hown, hts⟩ (c_L_number l D cA ad X k1 k2 z1.1 z1.2 hz1) (va_cwS 3 hts gL_item_L_number rfl rfl rfl hd_L_number.2 ⟨(Nat.le_of_ble_eq_true rfl), (Nat.le_of_ble_eq_true rfl)⟩) hK hP hD hS hA perm_nil (by rw [List.append_nil]) rfl hl.1 rfl (Nat.le_of_ble_eq_true rfl) dL_item_91 ⟨(Nat.le_of_ble_eq_true rfl), (Nat.le_of_ble_eq_true rfl)⟩ (fun H locs hP hD hS => ?_)
        refine lv_if_eq (tgt := 101) hx hb dL_item_94 (by decide) (fun hc => ?_) (fun hc => ?_)
        · have h := if_t hc h
          refine lv_iconst (v := (0 : Int32)) hx hb dL_item_101 (by decide) ?_
          refine lv_istore (lv' := [(8, .int (0 : Int32)), (0, .ref (ad 6 0)), (2, .int x2), (3, .int x3), (4, .int x4), (5, .int x5), (6, .int x6), (7, .int x7), (9, .int x9)]) hx hb dL_item_102 hl (by decide) rfl (fun ls hl => ?_)
          obtain ⟨v2, ev2⟩ : ∃ y : Int32, y = x9 + (1 : Int32) := ⟨_, rfl⟩
          refine lv_iinc (v := v2) (lv' := [(9, .int v2), (8, .int (0 : Int32)), (0, .ref (ad 6 0)), (2, .int x2), (3, .int x3), (4, .int x4), (5, .int x5), (6, .int x6), (7, .int x7)]) hx hb dL_item_104 hl (k := 8) rfl (by rw [ev2]; rfl) (by decide) rfl (fun ls hl => ?_)
          have h := nm_ap ev2 h
          refine lv_goto (tgt := 20) hx hb dL_item_107 (by decide) ?_
          exact ih (0 : Int32) v2 z1.2 _ _ hP hD hS ls (lv_sub hl [2, 3, 4, 5, 6, 7, 8, 1, 0] rfl) _ h K0
        · have h := if_f hc h
          refine lv_iconst (v := (1 : Int32)) hx hb dL_item_97 (by decide) ?_
          refine lv_goto (tgt := 102) hx hb dL_item_98 (by decide) ?_
          refine lv_istore (lv' := [(8, .int (1 : Int32)), (0, .ref (ad 6 0)), (2, .int x2), (3, .int x3), (4, .int x4), (5, .int x5), (6, .int x6), (7, .int x7), (9, .int x9)]) hx hb dL_item_102 hl (by decide) rfl (fun ls hl => ?_)
          obtain ⟨v3, ev3⟩ : ∃ y : Int32, y = x9 + (1 : Int32) := ⟨_, rfl⟩
          refine lv_iinc (v := v3) (lv' := [(9, .int v3), (8, .int (1 : Int32)), (0, .ref (ad 6 0)), (2, .int x2), (3, .int x3), (4, .int x4), (5, .int x5), (6, .int x6), (7, .int x7)]) hx hb dL_item_104 hl (k := 8) rfl (by rw [ev3]; rfl) (by decide) rfl (fun ls hl => ?_)
          have h := nm_ap ev3 h
          refine lv_goto (tgt := 20) hx hb dL_item_107 (by decide) ?_
          exact ih (1 : Int32) v3 z1.2 _ _ hP hD hS ls (lv_sub hl [2, 3, 4, 5, 6, 7, 8, 1, 0] rfl) _ h K0
      have JP20_76 : ∀ (k1 : Int32) (x9 : Int32) (X : (Nat → Ob)) (H : Heap) (locs : List Loc) (_ : va_P D vwCl (wX7 cA ad X) H) (_ : va_D A (wX7 cA ad X)) (_ : va_S A s.heap H locs) (ls : Array Slot) (_ : lv_has ls 10 [(0, .ref (ad 6 0)), (2, .int x2), (3, .int x3), (4, .int x4), (5, .int x5), (6, .int x6), (7, .int x7), (9, .int x9)]) (_ : J_L_item_76l20 (L_L_item_20 x2 x3 x4 x5 x6 x7 n) k1 x2 x3 x4 x5 x6 x7 x9 X = some res), W p l e rmL_item s m args below meth c H locs 0 0 Q (F0 m 76 ls [.int k1, .ref (ad 6 0)]) := by
        intro k1 x9 X H locs hP hD hS ls hl h
        unfold J_L_item_76l20 at h
        refine lv_iload hx hb dL_item_76 (lv_at hl 7 rfl) ?_
        refine lv_iload_n hx hb dL_item_78 rfl (lv_at hl 1 rfl) ?_
        refine lv_iconst (v := (1 : Int32)) hx hb dL_item_79 (by decide) ?_
        refine lv_isub hx hb dL_item_80 ?_
        refine lv_icmp_ge (tgt := 89) hx hb dL_item_81 (by decide) (fun hc => ?_) (fun hc => ?_)
        · have h := if_t hc h
          refine lv_bipush (v := (59 : Int32)) hx hb dL_item_89 (by decide) ?_
          exact JP20_91 k1 (59 : Int32) x9 X _ _ hP hD hS ls (lv_sub hl [0, 1, 2, 3, 4, 5, 6, 7] rfl) h
        · have h := if_f hc h
          refine lv_bipush (v := (44 : Int32)) hx hb dL_item_84 (by decide) ?_
          refine lv_goto (tgt := 91) hx hb dL_item_86 (by decide) ?_
          exact JP20_91 k1 (44 : Int32) x9 X _ _ hP hD hS ls (lv_sub hl [0, 1, 2, 3, 4, 5, 6, 7] rfl) h
      refine lv_iload hx hb dL_item_20 (lv_at hl 8 rfl) ?_
      refine lv_iload_n hx hb dL_item_22 rfl (lv_at hl 1 rfl) ?_
      refine lv_icmp_ge (tgt := 110) hx hb dL_item_23 (by decide) (fun hc => ?_) (fun hc => ?_)
      · have h := if_t hc h
        cases h
        exact K0 _ _ hP hD hS _ (lv_sub hl [7] rfl)
      · have h := if_f hc h
        refine lv_iload hx hb dL_item_26 (lv_at hl 7 rfl) ?_
        refine lv_if_eq (tgt := 101) hx hb dL_item_28 (by decide) (fun hc => ?_) (fun hc => ?_)
        · have h := if_t hc h
          refine lv_iconst (v := (0 : Int32)) hx hb dL_item_101 (by decide) ?_
          refine lv_istore (lv' := [(8, .int (0 : Int32)), (0, .ref (ad 6 0)), (2, .int x2), (3, .int x3), (4, .int x4), (5, .int x5), (6, .int x6), (7, .int x7), (9, .int x9)]) hx hb dL_item_102 hl (by decide) rfl (fun ls hl => ?_)
          obtain ⟨v1, ev1⟩ : ∃ y : Int32, y = x9 + (1 : Int32) := ⟨_, rfl⟩
          refine lv_iinc (v := v1) (lv' := [(9, .int v1), (8, .int (0 : Int32)), (0, .ref (ad 6 0)), (2, .int x2), (3, .int x3), (4, .int x4), (5, .int x5), (6, .int x6), (7, .int x7)]) hx hb dL_item_104 hl (k := 8) rfl (by rw [ev1]; rfl) (by decide) rfl (fun ls hl => ?_)
          have h := nm_ap ev1 h
          refine lv_goto (tgt := 20) hx hb dL_item_107 (by decide) ?_
          exact ih (0 : Int32) v1 X _ _ hP hD hS ls (lv_sub hl [2, 3, 4, 5, 6, 7, 8, 1, 0] rfl) _ h K0
        · have h := if_f hc h
          refine lv_aload_n hx hb dL_item_31 rfl (lv_at hl 0 rfl) ?_
          refine lv_iload hx hb dL_item_32 (lv_at hl 8 rfl) ?_
          refine lv_if_ne (tgt := 41) hx hb dL_item_34 (by decide) (fun hc => ?_) (fun hc => ?_)
          · have h := if_f hc h
            refine lv_iload hx hb dL_item_41 (lv_at hl 8 rfl) ?_
            refine lv_iconst (v := (1 : Int32)) hx hb dL_item_43 (by decide) ?_
            refine lv_icmp_ne (tgt := 52) hx hb dL_item_44 (by decide) (fun hc => ?_) (fun hc => ?_)
            · have h := if_f hc h
              refine lv_iload hx hb dL_item_52 (lv_at hl 8 rfl) ?_
              refine lv_iconst (v := (2 : Int32)) hx hb dL_item_54 (by decide) ?_
              refine lv_icmp_ne (tgt := 63) hx hb dL_item_55 (by decide) (fun hc => ?_) (fun hc => ?_)
              · have h := if_f hc h
                refine lv_iload hx hb dL_item_63 (lv_at hl 8 rfl) ?_
                refine lv_iconst (v := (3 : Int32)) hx hb dL_item_65 (by decide) ?_
                refine lv_icmp_ne (tgt := 74) hx hb dL_item_66 (by decide) (fun hc => ?_) (fun hc => ?_)
                · have h := if_f hc h
                  refine lv_iload hx hb dL_item_74 (lv_at hl 6 rfl) ?_
                  exact JP20_76 x7 x9 X _ _ hP hD hS ls (lv_sub hl [0, 1, 2, 3, 4, 5, 6, 8] rfl) h
                · have h := if_t hc h
                  refine lv_iload hx hb dL_item_69 (lv_at hl 5 rfl) ?_
                  refine lv_goto (tgt := 76) hx hb dL_item_71 (by decide) ?_
                  exact JP20_76 x6 x9 X _ _ hP hD hS ls (lv_sub hl [0, 1, 2, 3, 4, 5, 6, 8] rfl) h
              · have h := if_t hc h
                refine lv_iload hx hb dL_item_58 (lv_at hl 4 rfl) ?_
                refine lv_goto (tgt := 76) hx hb dL_item_60 (by decide) ?_
                exact JP20_76 x5 x9 X _ _ hP hD hS ls (lv_sub hl [0, 1, 2, 3, 4, 5, 6, 8] rfl) h
            · have h := if_t hc h
              refine lv_iload hx hb dL_item_47 (lv_at hl 3 rfl) ?_
              refine lv_goto (tgt := 76) hx hb dL_item_49 (by decide) ?_
              exact JP20_76 x4 x9 X _ _ hP hD hS ls (lv_sub hl [0, 1, 2, 3, 4, 5, 6, 8] rfl) h
          · have h := if_t hc h
            refine lv_iload_n hx hb dL_item_37 rfl (lv_at hl 2 rfl) ?_
            refine lv_goto (tgt := 76) hx hb dL_item_38 (by decide) ?_
            exact JP20_76 x3 x9 X _ _ hP hD hS ls (lv_sub hl [0, 1, 2, 3, 4, 5, 6, 8] rfl) h
  refine lv_aload_n hx hb dL_item_0 rfl (lv_at hl 0 rfl) ?_
  refine lv_iconst (v := (1 : Int32)) hx hb dL_item_1 (by decide) ?_
  refine lv_iload_n hx hb dL_item_2 rfl (lv_at hl 1 rfl) ?_
  refine lv_i2l hx hb dL_item_3 rfl ?_
  obtain ⟨z1, hz1, h⟩ := bd_some h
  refine pW_V (As := [.int (1 : Int32), .long x1.toInt64]) (rest := []) (wr := ([] : va_W)) (wn := (wX7 cA ad z1.2)) ⟨hx, hb, hml, hown, hts⟩ (c_X7_write l D cA ad X (1 : Int32) x1.toInt64 z1.1 z1.2 hz1) (cwV 2 hts gL_item_X7_write rfl rfl rfl hd_X7_write ⟨(Nat.le_of_ble_eq_true rfl), (Nat.le_of_ble_eq_true rfl)⟩) (recvK hK hP 0 7 rfl rfl) hK hP hD hS hA perm_nil (by rw [List.append_nil]) rfl hl.1 rfl (Nat.le_of_ble_eq_true rfl) dL_item_4 ⟨(Nat.le_of_ble_eq_true rfl), (Nat.le_of_ble_eq_true rfl)⟩ (fun H locs hP hD hS => ?_)
  refine lv_if_le (tgt := 14) hx hb dL_item_7 (by decide) (fun hc => ?_) (fun hc => ?_)
  · have h := if_t hc h
    refine lv_iconst (v := (0 : Int32)) hx hb dL_item_14 (by decide) ?_
    refine lv_istore (lv' := [(8, .int (0 : Int32)), (0, .ref (ad 6 0)), (1, .int x1), (2, .int x2), (3, .int x3), (4, .int x4), (5, .int x5), (6, .int x6), (7, .int x7)]) hx hb dL_item_15 hl (by decide) rfl (fun ls hl => ?_)
    refine lv_iconst (v := (0 : Int32)) hx hb dL_item_17 (by decide) ?_
    refine lv_istore (lv' := [(9, .int (0 : Int32)), (8, .int (0 : Int32)), (0, .ref (ad 6 0)), (1, .int x1), (2, .int x2), (3, .int x3), (4, .int x4), (5, .int x5), (6, .int x6), (7, .int x7)]) hx hb dL_item_18 hl (by decide) rfl (fun ls hl => ?_)
    obtain ⟨z2, hz2, h⟩ := bd_some h
    refine LP20 x2 x3 x4 x5 x6 x7 512 (0 : Int32) (0 : Int32) z1.2 _ _ hP hD hS ls (lv_sub hl [2, 4, 5, 6, 7, 8, 9, 1, 0] rfl) _ hz2 ?_
    · intro H locs hP hD hS ls hl
      refine lv_iload hx hb dL_item_110 (lv_at hl 0 rfl) ?_
      obtain ⟨hz9, h⟩ := gd_some h
      cases h
      exact hend _ _ _ _ (ckz_n hz9) hP hD hS dL_item_112
  · have h := if_f hc h
    refine lv_iconst (v := (1 : Int32)) hx hb dL_item_10 (by decide) ?_
    refine lv_goto (tgt := 15) hx hb dL_item_11 (by decide) ?_
    refine lv_istore (lv' := [(8, .int (1 : Int32)), (0, .ref (ad 6 0)), (1, .int x1), (2, .int x2), (3, .int x3), (4, .int x4), (5, .int x5), (6, .int x6), (7, .int x7)]) hx hb dL_item_15 hl (by decide) rfl (fun ls hl => ?_)
    refine lv_iconst (v := (0 : Int32)) hx hb dL_item_17 (by decide) ?_
    refine lv_istore (lv' := [(9, .int (0 : Int32)), (8, .int (1 : Int32)), (0, .ref (ad 6 0)), (1, .int x1), (2, .int x2), (3, .int x3), (4, .int x4), (5, .int x5), (6, .int x6), (7, .int x7)]) hx hb dL_item_18 hl (by decide) rfl (fun ls hl => ?_)
    obtain ⟨z3, hz3, h⟩ := bd_some h
    refine LP20 x2 x3 x4 x5 x6 x7 512 (1 : Int32) (0 : Int32) z1.2 _ _ hP hD hS ls (lv_sub hl [2, 4, 5, 6, 7, 8, 9, 1, 0] rfl) _ hz3 ?_
    · intro H locs hP hD hS ls hl
      refine lv_iload hx hb dL_item_110 (lv_at hl 0 rfl) ?_
      obtain ⟨hz9, h⟩ := gd_some h
      cases h
      exact hend _ _ _ _ (ckz_n hz9) hP hD hS dL_item_112
def J_L_town_140l112 (sL : Nat) (sxs : Nat → Int32) (self : Int32 → Int32 → (Nat → Ob) → (Nat → Int32) → Option (Int32 × (Nat → Ob) × (Nat → Int32))) (k0 : Int32) (x2 : Int32) (x4 : Int32) (x5 : Int32) (x6 : Int32) (X : (Nat → Ob)) (B1 : (Nat → Int32)) : Option (Int32 × (Nat → Ob) × (Nat → Int32)) := nm (upd B1 1 ((B1 1) ||| (k0 <<< (x6 &&& 31)))) (fun s1 => if x5 = (0 : Int32) then nm (x6 + (1 : Int32)) (fun v2 => self (0 : Int32) v2 X s1) else bd (f_L_item X (112 : Int32) (1 : Int32) k0 (0 : Int32) (0 : Int32) (0 : Int32) (0 : Int32)) (fun z3 => if z3.1 = (0 : Int32) then nm (x6 + (1 : Int32)) (fun v4 => self (0 : Int32) v4 z3.2 s1) else nm (x6 + (1 : Int32)) (fun v5 => self (1 : Int32) v5 z3.2 s1)))
def L_L_town_112_step (sL : Nat) (sxs : Nat → Int32) (x2 : Int32) (x4 : Int32) (self : Int32 → Int32 → (Nat → Ob) → (Nat → Int32) → Option (Int32 × (Nat → Ob) × (Nat → Int32))) (x5 : Int32) (x6 : Int32) (X : (Nat → Ob)) (B1 : (Nat → Int32)) : Option (Int32 × (Nat → Ob) × (Nat → Int32)) := if B1 0 ≤ x6 then some (x5, X, B1) else if (x4 >>> (((9 : Int32) + ((2 : Int32) * x6)) &&& 31)) &&& (3 : Int32) = (0 : Int32) then J_L_town_140l112 sL sxs self (0 : Int32) x2 x4 x5 x6 X B1 else J_L_town_140l112 sL sxs self (1 : Int32) x2 x4 x5 x6 X B1
def L_L_town_112 (sL : Nat) (sxs : Nat → Int32) (x2 : Int32) (x4 : Int32) : Nat → Int32 → Int32 → (Nat → Ob) → (Nat → Int32) → Option (Int32 × (Nat → Ob) × (Nat → Int32))
  | 0 => fun _ _ _ _ => none
  | n + 1 => fun x5 x6 X B1 => L_L_town_112_step sL sxs x2 x4 (L_L_town_112 sL sxs x2 x4 n) x5 x6 X B1
def J_L_town_359l190 (sL : Nat) (sxs : Nat → Int32) (self : Int32 → Int32 → (Nat → Ob) → (Nat → Int32) → Option (Int32 × (Nat → Ob) × (Nat → Int32))) (k1 : Int32) (k2 : Int32) (x2 : Int32) (x5 : Int32) (x6 : Int32) (X : (Nat → Ob)) (B1 : (Nat → Int32)) : Option (Int32 × (Nat → Ob) × (Nat → Int32)) := gd (ck k1 46) (nm (upd B1 k1.toNatClampNeg k2) (fun s2 => if x5 = (0 : Int32) then nm (x6 + (1 : Int32)) (fun v3 => self (0 : Int32) v3 X s2) else gd (ck ((4 : Int32) + x6) 46) (gd (ck ((12 : Int32) + x6) 46) (gd (ck ((20 : Int32) + x6) 46) (gd (ck ((28 : Int32) + x6) 46) (gd (ck ((36 : Int32) + x6) 46) (bd (f_L_item X (107 : Int32) (5 : Int32) (s2 ((4 : Int32) + x6).toNatClampNeg) (s2 ((12 : Int32) + x6).toNatClampNeg) (s2 ((20 : Int32) + x6).toNatClampNeg) (s2 ((28 : Int32) + x6).toNatClampNeg) (s2 ((36 : Int32) + x6).toNatClampNeg)) (fun z9 => if z9.1 = (0 : Int32) then nm (x6 + (1 : Int32)) (fun v10 => self (0 : Int32) v10 z9.2 s2) else nm (x6 + (1 : Int32)) (fun v11 => self (1 : Int32) v11 z9.2 s2)))))))))
def J_L_town_320l190 (sL : Nat) (sxs : Nat → Int32) (self : Int32 → Int32 → (Nat → Ob) → (Nat → Int32) → Option (Int32 × (Nat → Ob) × (Nat → Int32))) (k1 : Int32) (k2 : Int32) (k3 : Int32) (x2 : Int32) (x5 : Int32) (x6 : Int32) (x7 : Int32) (X : (Nat → Ob)) (B1 : (Nat → Int32)) : Option (Int32 × (Nat → Ob) × (Nat → Int32)) := bd (f_L_some k2 k3) (fun z1 => gd (ck k1 46) (nm (upd B1 k1.toNatClampNeg z1) (fun s3 => if (x7 >>> ((20 : Int32) &&& 31)) &&& (1 : Int32) = (0 : Int32) then bd (f_L_some (x7 >>> ((21 : Int32) &&& 31)) (2 : Int32)) (fun z4 => J_L_town_359l190 sL sxs self ((36 : Int32) + x6) z4 x2 x5 x6 X s3) else J_L_town_359l190 sL sxs self ((36 : Int32) + x6) ((x7 >>> ((21 : Int32) &&& 31)) &&& (3 : Int32)) x2 x5 x6 X s3)))
def J_L_town_293l190 (sL : Nat) (sxs : Nat → Int32) (self : Int32 → Int32 → (Nat → Ob) → (Nat → Int32) → Option (Int32 × (Nat → Ob) × (Nat → Int32))) (k1 : Int32) (k2 : Int32) (x2 : Int32) (x5 : Int32) (x6 : Int32) (x7 : Int32) (X : (Nat → Ob)) (B1 : (Nat → Int32)) : Option (Int32 × (Nat → Ob) × (Nat → Int32)) := gd (ck k1 46) (nm (upd B1 k1.toNatClampNeg k2) (fun s2 => if x7 &&& (134217728 : Int32) = (0 : Int32) then J_L_town_320l190 sL sxs self ((28 : Int32) + x6) (x7 >>> ((13 : Int32) &&& 31)) (10 : Int32) x2 x5 x6 x7 X s2 else J_L_town_320l190 sL sxs self ((28 : Int32) + x6) (x7 >>> ((13 : Int32) &&& 31)) (100 : Int32) x2 x5 x6 x7 X s2))
def L_L_town_190_step (sL : Nat) (sxs : Nat → Int32) (x2 : Int32) (self : Int32 → Int32 → (Nat → Ob) → (Nat → Int32) → Option (Int32 × (Nat → Ob) × (Nat → Int32))) (x5 : Int32) (x6 : Int32) (X : (Nat → Ob)) (B1 : (Nat → Int32)) : Option (Int32 × (Nat → Ob) × (Nat → Int32)) := if B1 3 ≤ x6 then some (x5, X, B1) else bd (f_L_cell sL sxs ((x2 + (1 : Int32)) + x6)) (fun z1 => bd (f_L_some z1 (B1 0)) (fun z2 => gd (ck ((4 : Int32) + x6) 46) (nm (upd B1 ((4 : Int32) + x6).toNatClampNeg z2) (fun s4 => bd (f_L_some (z1 >>> ((3 : Int32) &&& 31)) ((s4 0) - (1 : Int32))) (fun z5 => gd (decide (¬ s4 0 = (0 : Int32))) (gd (ck ((12 : Int32) + x6) 46) (nm (upd s4 ((12 : Int32) + x6).toNatClampNeg ((((s4 ((4 : Int32) + x6).toNatClampNeg) + (1 : Int32)) + z5) - (((s4 ((4 : Int32) + x6).toNatClampNeg) + (1 : Int32)) + z5) / (s4 0) * (s4 0))) (fun s8 => if (z1 >>> ((5 : Int32) &&& 31)) &&& (3 : Int32) = (0 : Int32) then J_L_town_293l190 sL sxs self ((20 : Int32) + x6) (0 : Int32) x2 x5 x6 z1 X s8 else J_L_town_293l190 sL sxs self ((20 : Int32) + x6) (((z1 >>> ((7 : Int32) &&& 31)) &&& (z1 >>> ((15 : Int32) &&& 31))) &&& (((1 : Int32) <<< (x6 &&& 31)) - (1 : Int32))) x2 x5 x6 z1 X s8))))))))
def L_L_town_190 (sL : Nat) (sxs : Nat → Int32) (x2 : Int32) : Nat → Int32 → Int32 → (Nat → Ob) → (Nat → Int32) → Option (Int32 × (Nat → Ob) × (Nat → Int32))
  | 0 => fun _ _ _ _ => none
  | n + 1 => fun x5 x6 X B1 => L_L_town_190_step sL sxs x2 (L_L_town_190 sL sxs x2 n) x5 x6 X B1
def J_L_town_107 (sL : Nat) (sxs : Nat → Int32) (k0 : Int32) (x2 : Int32) (x4 : Int32) (X : (Nat → Ob)) (B1 : (Nat → Int32)) : Option (Int32 × (Nat → Ob) × (Nat → Int32)) := bd (L_L_town_112 sL sxs x2 x4 512 k0 (0 : Int32) X B1) (fun z1 => bd (L_L_town_190 sL sxs x2 512 z1.1 (0 : Int32) z1.2.1 z1.2.2) (fun z2 => if z2.1 = (0 : Int32) then some ((0 : Int32), z2.2.1, z2.2.2) else bd (f_X7_fault z2.2.1) (fun z3 => if z3.1 = (-4 : Int32) then bd (f_X7_lay z3.2) (fun z4 => if z4.1 = z2.2.2 3 then some ((1 : Int32), z4.2, z2.2.2) else some ((0 : Int32), z4.2, z2.2.2)) else some ((0 : Int32), z3.2, z2.2.2))))
def J_L_town_106 (sL : Nat) (sxs : Nat → Int32) (x2 : Int32) (x4 : Int32) (X : (Nat → Ob)) (B1 : (Nat → Int32)) : Option (Int32 × (Nat → Ob) × (Nat → Int32)) := J_L_town_107 sL sxs (0 : Int32) x2 x4 X B1
def J_L_town_47 (sL : Nat) (sxs : Nat → Int32) (k1 : Int32) (k2 : Int32) (x2 : Int32) (x4 : Int32) (X : (Nat → Ob)) (B1 : (Nat → Int32)) : Option (Int32 × (Nat → Ob) × (Nat → Int32)) := gd (ck k1 46) (nm (upd B1 k1.toNatClampNeg k2) (fun s2 => bd (f_L_some (x4 >>> ((5 : Int32) &&& 31)) (6 : Int32)) (fun z3 => nm (upd s2 3 ((1 : Int32) + z3)) (fun s4 => nm (upd s4 44 (((1 : Int32) <<< ((s4 3) &&& 31)) - (1 : Int32))) (fun s5 => nm (upd s5 45 (0 : Int32)) (fun s6 => bd (f_X7_wipe X) (fun z7 => if z7.1 < (0 : Int32) then J_L_town_106 sL sxs x2 x4 z7.2 s6 else bd (f_L_item z7.2 (108 : Int32) (1 : Int32) (s6 2) (0 : Int32) (0 : Int32) (0 : Int32) (0 : Int32)) (fun z8 => if z8.1 = (0 : Int32) then J_L_town_106 sL sxs x2 x4 z8.2 s6 else J_L_town_107 sL sxs (1 : Int32) x2 x4 z8.2 s6))))))))
def f_L_town (X : (Nat → Ob)) (B1 : (Nat → Int32)) (sL : Nat) (sxs : (Nat → Int32)) (x2 : Int32) : Option (Int32 × (Nat → Ob) × (Nat → Int32)) := bd (f_L_cell sL sxs x2) (fun z1 => bd (f_L_some z1 (4 : Int32)) (fun z2 => nm (upd B1 0 ((2 : Int32) + z2)) (fun s3 => nm (upd s3 1 (0 : Int32)) (fun s4 => nm (upd s4 2 ((z1 >>> ((3 : Int32) &&& 31)) &&& (3 : Int32))) (fun s5 => if s5 2 = (3 : Int32) then J_L_town_47 sL sxs (2 : Int32) (0 : Int32) x2 z1 X s5 else J_L_town_47 sL sxs (2 : Int32) (s5 2) x2 z1 X s5)))))
abbrev rmL_town : Room := ({ frames := 7, cells := 0, slots := 0, locals := 159 } : Room)
set_option maxHeartbeats 4000000 in
set_option maxRecDepth 100000 in
theorem c_L_town (l : Launch) (D : va_G) (cA : ClassId) (ad : (Nat → Nat → Nat)) (X : (Nat → Ob)) (ba1 : Nat) (B1 : (Nat → Int32)) (sa : Nat) (sL : Nat) (sxs : Nat → Int32) (x2 : Int32) (r : Int32) (X_ : (Nat → Ob)) (B1_ : (Nat → Int32)) (h : f_L_town X B1 sL sxs x2 = some (r, X_, B1_)) : ConT l yL_town wsL_town rmL_town D cA [.ref (ad 6 0), .ref sa, .int x2, .ref ba1] (wX7 cA ad X ++ (([(ba1, .inl (cA, 46, .inl B1))] : va_W))) sa sL sxs r (wX7 cA ad X_ ++ (([(ba1, .inl (cA, 46, .inl B1_))] : va_W))) := by
  refine ConTZ.enter (cc := cL_town) (maxL := 8) (by decide) rfl (Nat.le_of_ble_eq_true rfl) ?_
  intro p e s m args below meth c Q A hx hb hml hown hts hK hP hD hA hX hbl hbA hend ls hl
  have hS : va_S A s.heap s.heap [] := va_S.rf
  have hl : lv_has ls 8 [(0, .ref (ad 6 0)), (1, .ref sa), (2, .int x2), (3, .ref ba1)] := hl
  unfold f_L_town at h
  have lkc38 := hts (.constant RL 38 (134217728)) (List.mem_of_getElem? (i := 1) rfl)
  have LP112 : ∀ (x2 : Int32) (x4 : Int32) (n : Nat) (x5 : Int32) (x6 : Int32) (X : (Nat → Ob)) (B1 : (Nat → Int32)) (H : Heap) (locs : List Loc) (_ : va_P D vwCl (wX7 cA ad X ++ (([(ba1, .inl (cA, 46, .inl B1))] : va_W))) H) (_ : va_D A (wX7 cA ad X ++ (([(ba1, .inl (cA, 46, .inl B1))] : va_W)))) (_ : va_S A s.heap H locs) (ls : Array Slot) (_ : lv_has ls 8 [(0, .ref (ad 6 0)), (1, .ref sa), (2, .int x2), (3, .ref ba1), (4, .int x4), (5, .int x5), (6, .int x6)]) (res : Int32 × (Nat → Ob) × (Nat → Int32)) (_ : L_L_town_112 sL sxs x2 x4 n x5 x6 X B1 = some res) (_ : (∀ (H : Heap) (locs : List Loc) (_ : va_P D vwCl (wX7 cA ad res.2.1 ++ (([(ba1, .inl (cA, 46, .inl res.2.2))] : va_W))) H) (_ : va_D A (wX7 cA ad res.2.1 ++ (([(ba1, .inl (cA, 46, .inl res.2.2))] : va_W)))) (_ : va_S A s.heap H locs) (ls : Array Slot), lv_has ls 8 [(0, .ref (ad 6 0)), (1, .ref sa), (2, .int x2), (3, .ref ba1), (5, .int res.1)] → W p l e rmL_town s m args below meth c H locs 0 0 Q (F0 m 187 ls []))), W p l e rmL_town s m args below meth c H locs 0 0 Q (F0 m 112 ls []) := by
    intro x2 x4 n
    induction n with
    | zero =>
      intro x5 x6 X B1 H locs hP hD hS ls hl res h K0
      exact absurd h (fun q : (none : Option (Int32 × (Nat → Ob) × (Nat → Int32))) = some res => by cases q)
    | succ n ih =>
      intro x5 x6 X B1 H locs hP hD hS ls hl res h K0
      have h : L_L_town_112_step sL sxs x2 x4 (L_L_town_112 sL sxs x2 x4 n) x5 x6 X B1 = some res := h
      unfold L_L_town_112_step at h
      have JP112_140 : ∀ (k0 : Int32) (x5 : Int32) (x6 : Int32) (X : (Nat → Ob)) (B1 : (Nat → Int32)) (H : Heap) (locs : List Loc) (_ : va_P D vwCl (wX7 cA ad X ++ (([(ba1, .inl (cA, 46, .inl B1))] : va_W))) H) (_ : va_D A (wX7 cA ad X ++ (([(ba1, .inl (cA, 46, .inl B1))] : va_W)))) (_ : va_S A s.heap H locs) (ls : Array Slot) (_ : lv_has ls 8 [(0, .ref (ad 6 0)), (1, .ref sa), (2, .int x2), (3, .ref ba1), (4, .int x4), (5, .int x5), (6, .int x6)]) (_ : J_L_town_140l112 sL sxs (L_L_town_112 sL sxs x2 x4 n) k0 x2 x4 x5 x6 X B1 = some res), W p l e rmL_town s m args below meth c H locs 0 0 Q (F0 m 140 ls [.int k0]) := by
        intro k0 x5 x6 X B1 H locs hP hD hS ls hl h
        unfold J_L_town_140l112 at h
        refine lv_istore (lv' := [(7, .int k0), (0, .ref (ad 6 0)), (1, .ref sa), (2, .int x2), (3, .ref ba1), (4, .int x4), (5, .int x5), (6, .int x6)]) hx hb dL_town_140 hl (by decide) rfl (fun ls hl => ?_)
        refine lv_aload_n hx hb dL_town_142 rfl (lv_at hl 4 rfl) ?_
        refine lv_iconst (v := (1 : Int32)) hx hb dL_town_143 (by decide) ?_
        refine lv_dup2_11 hx hb dL_town_144 rfl rfl ?_
        refine iald (q0 := 0) (t0 := 0) (j := 1) hx hb hK (P_left (wc := ([(ba1, .inl (cA, 46, .inl B1))] : va_W)) (R := (wX7 cA ad X)) (perm_of (fun c hc => by simp only [hc] <;> omega)) hP) 0 rfl rfl (vp_in_iff.mpr (by decide)) dL_town_145 ?_
        refine lv_iload hx hb dL_town_146 (lv_at hl 0 rfl) ?_
        refine lv_iload hx hb dL_town_148 (lv_at hl 7 rfl) ?_
        refine lv_ishl hx hb dL_town_150 ?_
        refine lv_ior hx hb dL_town_151 ?_
        have hP := P_perm (b := ([(ba1, .inl (cA, 46, .inl B1))] : va_W) ++ (wX7 cA ad X)) (perm_of (fun c hc => by simp only [hc] <;> omega)) hP
        have hD := D_perm (b := ([(ba1, .inl (cA, 46, .inl B1))] : va_W) ++ (wX7 cA ad X)) (perm_of (fun c hc => by simp only [hc] <;> omega)) hD
        refine iast (j := 1) (wn := ([(ba1, .inl (cA, 46, .inl (upd B1 1 ((B1 1) ||| (k0 <<< (x6 &&& 31))))))] : va_W) ++ (wX7 cA ad X)) hx hb hK hP hD hS 0 rfl rfl (vp_in_iff.mpr (by decide)) dL_town_152 rfl (fun H locs hP hD hS => ?_)
        have hP := P_perm (b := (wX7 cA ad X ++ (([(ba1, .inl (cA, 46, .inl (upd B1 1 ((B1 1) ||| (k0 <<< (x6 &&& 31))))))] : va_W)))) (perm_of (fun c hc => by simp only [hc] <;> omega)) hP
        have hD := D_perm (b := (wX7 cA ad X ++ (([(ba1, .inl (cA, 46, .inl (upd B1 1 ((B1 1) ||| (k0 <<< (x6 &&& 31))))))] : va_W)))) (perm_of (fun c hc => by simp only [hc] <;> omega)) hD
        obtain ⟨s1, es1⟩ : ∃ z, z = upd B1 1 ((B1 1) ||| (k0 <<< (x6 &&& 31))) := ⟨_, rfl⟩
        rw [← es1] at hP hD
        have h := nm_ap es1 h
        refine lv_iload hx hb dL_town_153 (lv_at hl 6 rfl) ?_
        refine lv_if_eq (tgt := 178) hx hb dL_town_155 (by decide) (fun hc => ?_) (fun hc => ?_)
        · have h := if_t hc h
          refine lv_iconst (v := (0 : Int32)) hx hb dL_town_178 (by decide) ?_
          refine lv_istore (lv' := [(5, .int (0 : Int32)), (7, .int k0), (0, .ref (ad 6 0)), (1, .ref sa), (2, .int x2), (3, .ref ba1), (4, .int x4), (6, .int x6)]) hx hb dL_town_179 hl (by decide) rfl (fun ls hl => ?_)
          obtain ⟨v2, ev2⟩ : ∃ y : Int32, y = x6 + (1 : Int32) := ⟨_, rfl⟩
          refine lv_iinc (v := v2) (lv' := [(6, .int v2), (5, .int (0 : Int32)), (7, .int k0), (0, .ref (ad 6 0)), (1, .ref sa), (2, .int x2), (3, .ref ba1), (4, .int x4)]) hx hb dL_town_181 hl (k := 7) rfl (by rw [ev2]; rfl) (by decide) rfl (fun ls hl => ?_)
          have h := nm_ap ev2 h
          refine lv_goto (tgt := 112) hx hb dL_town_184 (by decide) ?_
          exact ih (0 : Int32) v2 X s1 _ _ hP hD hS ls (lv_sub hl [3, 4, 5, 6, 7, 1, 0] rfl) _ h K0
        · have h := if_f hc h
          refine lv_aload_n hx hb dL_town_158 rfl (lv_at hl 1 rfl) ?_
          refine lv_bipush (v := (112 : Int32)) hx hb dL_town_159 (by decide) ?_
          refine lv_iconst (v := (1 : Int32)) hx hb dL_town_161 (by decide) ?_
          refine lv_iload hx hb dL_town_162 (lv_at hl 0 rfl) ?_
          refine lv_iconst (v := (0 : Int32)) hx hb dL_town_164 (by decide) ?_
          refine lv_iconst (v := (0 : Int32)) hx hb dL_town_165 (by decide) ?_
          refine lv_iconst (v := (0 : Int32)) hx hb dL_town_166 (by decide) ?_
          refine lv_iconst (v := (0 : Int32)) hx hb dL_town_167 (by decide) ?_
          obtain ⟨z3, hz3, h⟩ := bd_some h
          refine pW_S (As := [.ref (ad 6 0), .int (112 : Int32), .int (1 : Int32), .int k0, .int (0 : Int32), .int (0 : Int32), .int (0 : Int32), .int (0 : Int32)]) (rest := []) (wr := (([(ba1, .inl (cA, 46, .inl s1))] : va_W))) (wn := (wX7 cA ad z3.2 ++ (([(ba1, .inl (cA, 46, .inl s1))] : va_W)))) ⟨hx, hb, hml, hown, hts⟩ (c_L_item l D cA ad X (112 : Int32) (1 : Int32) k0 (0 : Int32) (0 : Int32) (0 : Int32) (0 : Int32) z3.1 z3.2 hz3) (va_cwS 8 hts gL_town_L_item rfl rfl rfl hd_L_item.2 ⟨(Nat.le_of_ble_eq_true rfl), (Nat.le_of_ble_eq_true rfl)⟩) hK hP hD hS hA (perm_of (fun c hc => by simp only [hc] <;> omega)) (perm_of (fun c hc => by simp only [hc] <;> omega)) rfl hl.1 rfl (Nat.le_of_ble_eq_true rfl) dL_town_168 ⟨(Nat.le_of_ble_eq_true rfl), (Nat.le_of_ble_eq_true rfl)⟩ (fun H locs hP hD hS => ?_)
          refine lv_if_eq (tgt := 178) hx hb dL_town_171 (by decide) (fun hc => ?_) (fun hc => ?_)
          · have h := if_t hc h
            refine lv_iconst (v := (0 : Int32)) hx hb dL_town_178 (by decide) ?_
            refine lv_istore (lv' := [(5, .int (0 : Int32)), (7, .int k0), (0, .ref (ad 6 0)), (1, .ref sa), (2, .int x2), (3, .ref ba1), (4, .int x4), (6, .int x6)]) hx hb dL_town_179 hl (by decide) rfl (fun ls hl => ?_)
            obtain ⟨v4, ev4⟩ : ∃ y : Int32, y = x6 + (1 : Int32) := ⟨_, rfl⟩
            refine lv_iinc (v := v4) (lv' := [(6, .int v4), (5, .int (0 : Int32)), (7, .int k0), (0, .ref (ad 6 0)), (1, .ref sa), (2, .int x2), (3, .ref ba1), (4, .int x4)]) hx hb dL_town_181 hl (k := 7) rfl (by rw [ev4]; rfl) (by decide) rfl (fun ls hl => ?_)
            have h := nm_ap ev4 h
            refine lv_goto (tgt := 112) hx hb dL_town_184 (by decide) ?_
            exact ih (0 : Int32) v4 z3.2 s1 _ _ hP hD hS ls (lv_sub hl [3, 4, 5, 6, 7, 1, 0] rfl) _ h K0
          · have h := if_f hc h
            refine lv_iconst (v := (1 : Int32)) hx hb dL_town_174 (by decide) ?_
            refine lv_goto (tgt := 179) hx hb dL_town_175 (by decide) ?_
            refine lv_istore (lv' := [(5, .int (1 : Int32)), (7, .int k0), (0, .ref (ad 6 0)), (1, .ref sa), (2, .int x2), (3, .ref ba1), (4, .int x4), (6, .int x6)]) hx hb dL_town_179 hl (by decide) rfl (fun ls hl => ?_)
            obtain ⟨v5, ev5⟩ : ∃ y : Int32, y = x6 + (1 : Int32) := ⟨_, rfl⟩
            refine lv_iinc (v := v5) (lv' := [(6, .int v5), (5, .int (1 : Int32)), (7, .int k0), (0, .ref (ad 6 0)), (1, .ref sa), (2, .int x2), (3, .ref ba1), (4, .int x4)]) hx hb dL_town_181 hl (k := 7) rfl (by rw [ev5]; rfl) (by decide) rfl (fun ls hl => ?_)
            have h := nm_ap ev5 h
            refine lv_goto (tgt := 112) hx hb dL_town_184 (by decide) ?_
            exact ih (1 : Int32) v5 z3.2 s1 _ _ hP hD hS ls (lv_sub hl [3, 4, 5, 6, 7, 1, 0] rfl) _ h K0
      refine lv_iload hx hb dL_town_112 (lv_at hl 6 rfl) ?_
      refine lv_aload_n hx hb dL_town_114 rfl (lv_at hl 3 rfl) ?_
      refine lv_iconst (v := (0 : Int32)) hx hb dL_town_115 (by decide) ?_
      refine iald (q0 := 0) (t0 := 0) (j := 0) hx hb hK (P_left (wc := ([(ba1, .inl (cA, 46, .inl B1))] : va_W)) (R := (wX7 cA ad X)) (perm_of (fun c hc => by simp only [hc] <;> omega)) hP) 0 rfl rfl (vp_in_iff.mpr (by decide)) dL_town_116 ?_
      refine lv_icmp_ge (tgt := 187) hx hb dL_town_117 (by decide) (fun hc => ?_) (fun hc => ?_)
      · have h := if_t hc h
        cases h
        exact K0 _ _ hP hD hS _ (lv_sub hl [0, 1, 2, 3, 5] rfl)
      · have h := if_f hc h
        refine lv_iload hx hb dL_town_120 (lv_at hl 4 rfl) ?_
        refine lv_bipush (v := (9 : Int32)) hx hb dL_town_122 (by decide) ?_
        refine lv_iconst (v := (2 : Int32)) hx hb dL_town_124 (by decide) ?_
        refine lv_iload hx hb dL_town_125 (lv_at hl 6 rfl) ?_
        refine lv_imul hx hb dL_town_127 ?_
        refine lv_iadd hx hb dL_town_128 ?_
        refine lv_ishr hx hb dL_town_129 ?_
        refine lv_iconst (v := (3 : Int32)) hx hb dL_town_130 (by decide) ?_
        refine lv_iand hx hb dL_town_131 ?_
        refine lv_if_ne (tgt := 139) hx hb dL_town_132 (by decide) (fun hc => ?_) (fun hc => ?_)
        · have h := if_f hc h
          refine lv_iconst (v := (1 : Int32)) hx hb dL_town_139 (by decide) ?_
          exact JP112_140 (1 : Int32) x5 x6 X B1 _ _ hP hD hS ls (lv_sub hl [0, 1, 2, 3, 4, 5, 6] rfl) h
        · have h := if_t hc h
          refine lv_iconst (v := (0 : Int32)) hx hb dL_town_135 (by decide) ?_
          refine lv_goto (tgt := 140) hx hb dL_town_136 (by decide) ?_
          exact JP112_140 (0 : Int32) x5 x6 X B1 _ _ hP hD hS ls (lv_sub hl [0, 1, 2, 3, 4, 5, 6] rfl) h
  have LP190 : ∀ (x2 : Int32) (n : Nat) (x5 : Int32) (x6 : Int32) (X : (Nat → Ob)) (B1 : (Nat → Int32)) (H : Heap) (locs : List Loc) (_ : va_P D vwCl (wX7 cA ad X ++ (([(ba1, .inl (cA, 46, .inl B1))] : va_W))) H) (_ : va_D A (wX7 cA ad X ++ (([(ba1, .inl (cA, 46, .inl B1))] : va_W)))) (_ : va_S A s.heap H locs) (ls : Array Slot) (_ : lv_has ls 8 [(0, .ref (ad 6 0)), (1, .ref sa), (2, .int x2), (3, .ref ba1), (5, .int x5), (6, .int x6)]) (res : Int32 × (Nat → Ob) × (Nat → Int32)) (_ : L_L_town_190 sL sxs x2 n x5 x6 X B1 = some res) (_ : (∀ (H : Heap) (locs : List Loc) (_ : va_P D vwCl (wX7 cA ad res.2.1 ++ (([(ba1, .inl (cA, 46, .inl res.2.2))] : va_W))) H) (_ : va_D A (wX7 cA ad res.2.1 ++ (([(ba1, .inl (cA, 46, .inl res.2.2))] : va_W)))) (_ : va_S A s.heap H locs) (ls : Array Slot), lv_has ls 8 [(0, .ref (ad 6 0)), (3, .ref ba1), (5, .int res.1)] → W p l e rmL_town s m args below meth c H locs 0 0 Q (F0 m 422 ls []))), W p l e rmL_town s m args below meth c H locs 0 0 Q (F0 m 190 ls []) := by
    intro x2 n
    induction n with
    | zero =>
      intro x5 x6 X B1 H locs hP hD hS ls hl res h K0
      exact absurd h (fun q : (none : Option (Int32 × (Nat → Ob) × (Nat → Int32))) = some res => by cases q)
    | succ n ih =>
      intro x5 x6 X B1 H locs hP hD hS ls hl res h K0
      have h : L_L_town_190_step sL sxs x2 (L_L_town_190 sL sxs x2 n) x5 x6 X B1 = some res := h
      unfold L_L_town_190_step at h
      have JP190_359 : ∀ (k1 : Int32) (k2 : Int32) (x5 : Int32) (x6 : Int32) (X : (Nat → Ob)) (B1 : (Nat → Int32)) (H : Heap) (locs : List Loc) (_ : va_P D vwCl (wX7 cA ad X ++ (([(ba1, .inl (cA, 46, .inl B1))] : va_W))) H) (_ : va_D A (wX7 cA ad X ++ (([(ba1, .inl (cA, 46, .inl B1))] : va_W)))) (_ : va_S A s.heap H locs) (ls : Array Slot) (_ : lv_has ls 8 [(0, .ref (ad 6 0)), (1, .ref sa), (2, .int x2), (3, .ref ba1), (5, .int x5), (6, .int x6)]) (_ : J_L_town_359l190 sL sxs (L_L_town_190 sL sxs x2 n) k1 k2 x2 x5 x6 X B1 = some res), W p l e rmL_town s m args below meth c H locs 0 0 Q (F0 m 359 ls [.int k2, .int k1, .ref ba1]) := by
        intro k1 k2 x5 x6 X B1 H locs hP hD hS ls hl h
        unfold J_L_town_359l190 at h
        obtain ⟨hi1, h⟩ := gd_some h
        have hP := P_perm (b := ([(ba1, .inl (cA, 46, .inl B1))] : va_W) ++ (wX7 cA ad X)) (perm_of (fun c hc => by simp only [hc] <;> omega)) hP
        have hD := D_perm (b := ([(ba1, .inl (cA, 46, .inl B1))] : va_W) ++ (wX7 cA ad X)) (perm_of (fun c hc => by simp only [hc] <;> omega)) hD
        refine iast (j := k1.toNatClampNeg) (wn := ([(ba1, .inl (cA, 46, .inl (upd B1 k1.toNatClampNeg k2)))] : va_W) ++ (wX7 cA ad X)) hx hb hK hP hD hS 0 rfl rfl (ck_in hi1) dL_town_359 rfl (fun H locs hP hD hS => ?_)
        have hP := P_perm (b := (wX7 cA ad X ++ (([(ba1, .inl (cA, 46, .inl (upd B1 k1.toNatClampNeg k2)))] : va_W)))) (perm_of (fun c hc => by simp only [hc] <;> omega)) hP
        have hD := D_perm (b := (wX7 cA ad X ++ (([(ba1, .inl (cA, 46, .inl (upd B1 k1.toNatClampNeg k2)))] : va_W)))) (perm_of (fun c hc => by simp only [hc] <;> omega)) hD
        obtain ⟨s2, es2⟩ : ∃ z, z = upd B1 k1.toNatClampNeg k2 := ⟨_, rfl⟩
        rw [← es2] at hP hD
        have h := nm_ap es2 h
        refine lv_iload hx hb dL_town_360 (lv_at hl 4 rfl) ?_
        refine lv_if_eq (tgt := 413) hx hb dL_town_362 (by decide) (fun hc => ?_) (fun hc => ?_)
        · have h := if_t hc h
          refine lv_iconst (v := (0 : Int32)) hx hb dL_town_413 (by decide) ?_
          refine lv_istore (lv' := [(5, .int (0 : Int32)), (0, .ref (ad 6 0)), (1, .ref sa), (2, .int x2), (3, .ref ba1), (6, .int x6)]) hx hb dL_town_414 hl (by decide) rfl (fun ls hl => ?_)
          obtain ⟨v3, ev3⟩ : ∃ y : Int32, y = x6 + (1 : Int32) := ⟨_, rfl⟩
          refine lv_iinc (v := v3) (lv' := [(6, .int v3), (5, .int (0 : Int32)), (0, .ref (ad 6 0)), (1, .ref sa), (2, .int x2), (3, .ref ba1)]) hx hb dL_town_416 hl (k := 5) rfl (by rw [ev3]; rfl) (by decide) rfl (fun ls hl => ?_)
          have h := nm_ap ev3 h
          refine lv_goto (tgt := 190) hx hb dL_town_419 (by decide) ?_
          exact ih (0 : Int32) v3 X s2 _ _ hP hD hS ls (lv_sub hl [2, 3, 4, 5, 1, 0] rfl) _ h K0
        · have h := if_f hc h
          refine lv_aload_n hx hb dL_town_365 rfl (lv_at hl 0 rfl) ?_
          refine lv_bipush (v := (107 : Int32)) hx hb dL_town_366 (by decide) ?_
          refine lv_iconst (v := (5 : Int32)) hx hb dL_town_368 (by decide) ?_
          refine lv_aload_n hx hb dL_town_369 rfl (lv_at hl 3 rfl) ?_
          refine lv_iconst (v := (4 : Int32)) hx hb dL_town_370 (by decide) ?_
          refine lv_iload hx hb dL_town_371 (lv_at hl 5 rfl) ?_
          refine lv_iadd hx hb dL_town_373 ?_
          obtain ⟨hi4, h⟩ := gd_some h
          refine iald (q0 := 0) (t0 := 0) (j := ((4 : Int32) + x6).toNatClampNeg) hx hb hK (P_left (wc := ([(ba1, .inl (cA, 46, .inl s2))] : va_W)) (R := (wX7 cA ad X)) (perm_of (fun c hc => by simp only [hc] <;> omega)) hP) 0 rfl rfl (ck_in hi4) dL_town_374 ?_
          refine lv_aload_n hx hb dL_town_375 rfl (lv_at hl 3 rfl) ?_
          refine lv_bipush (v := (12 : Int32)) hx hb dL_town_376 (by decide) ?_
          refine lv_iload hx hb dL_town_378 (lv_at hl 5 rfl) ?_
          refine lv_iadd hx hb dL_town_380 ?_
          obtain ⟨hi5, h⟩ := gd_some h
          refine iald (q0 := 0) (t0 := 0) (j := ((12 : Int32) + x6).toNatClampNeg) hx hb hK (P_left (wc := ([(ba1, .inl (cA, 46, .inl s2))] : va_W)) (R := (wX7 cA ad X)) (perm_of (fun c hc => by simp only [hc] <;> omega)) hP) 0 rfl rfl (ck_in hi5) dL_town_381 ?_
          refine lv_aload_n hx hb dL_town_382 rfl (lv_at hl 3 rfl) ?_
          refine lv_bipush (v := (20 : Int32)) hx hb dL_town_383 (by decide) ?_
          refine lv_iload hx hb dL_town_385 (lv_at hl 5 rfl) ?_
          refine lv_iadd hx hb dL_town_387 ?_
          obtain ⟨hi6, h⟩ := gd_some h
          refine iald (q0 := 0) (t0 := 0) (j := ((20 : Int32) + x6).toNatClampNeg) hx hb hK (P_left (wc := ([(ba1, .inl (cA, 46, .inl s2))] : va_W)) (R := (wX7 cA ad X)) (perm_of (fun c hc => by simp only [hc] <;> omega)) hP) 0 rfl rfl (ck_in hi6) dL_town_388 ?_
          refine lv_aload_n hx hb dL_town_389 rfl (lv_at hl 3 rfl) ?_
          refine lv_bipush (v := (28 : Int32)) hx hb dL_town_390 (by decide) ?_
          refine lv_iload hx hb dL_town_392 (lv_at hl 5 rfl) ?_
          refine lv_iadd hx hb dL_town_394 ?_
          obtain ⟨hi7, h⟩ := gd_some h
          refine iald (q0 := 0) (t0 := 0) (j := ((28 : Int32) + x6).toNatClampNeg) hx hb hK (P_left (wc := ([(ba1, .inl (cA, 46, .inl s2))] : va_W)) (R := (wX7 cA ad X)) (perm_of (fun c hc => by simp only [hc] <;> omega)) hP) 0 rfl rfl (ck_in hi7) dL_town_395 ?_
          refine lv_aload_n hx hb dL_town_396 rfl (lv_at hl 3 rfl) ?_
          refine lv_bipush (v := (36 : Int32)) hx hb dL_town_397 (by decide) ?_
          refine lv_iload hx hb dL_town_399 (lv_at hl 5 rfl) ?_
          refine lv_iadd hx hb dL_town_401 ?_
          obtain ⟨hi8, h⟩ := gd_some h
          refine iald (q0 := 0) (t0 := 0) (j := ((36 : Int32) + x6).toNatClampNeg) hx hb hK (P_left (wc := ([(ba1, .inl (cA, 46, .inl s2))] : va_W)) (R := (wX7 cA ad X)) (perm_of (fun c hc => by simp only [hc] <;> omega)) hP) 0 rfl rfl (ck_in hi8) dL_town_402 ?_
          obtain ⟨z9, hz9, h⟩ := bd_some h
          refine pW_S (As := [.ref (ad 6 0), .int (107 : Int32), .int (5 : Int32), .int (s2 ((4 : Int32) + x6).toNatClampNeg), .int (s2 ((12 : Int32) + x6).toNatClampNeg), .int (s2 ((20 : Int32) + x6).toNatClampNeg), .int (s2 ((28 : Int32) + x6).toNatClampNeg), .int (s2 ((36 : Int32) + x6).toNatClampNeg)]) (rest := []) (wr := (([(ba1, .inl (cA, 46, .inl s2))] : va_W))) (wn := (wX7 cA ad z9.2 ++ (([(ba1, .inl (cA, 46, .inl s2))] : va_W)))) ⟨hx, hb, hml, hown, hts⟩ (c_L_item l D cA ad X (107 : Int32) (5 : Int32) (s2 ((4 : Int32) + x6).toNatClampNeg) (s2 ((12 : Int32) + x6).toNatClampNeg) (s2 ((20 : Int32) + x6).toNatClampNeg) (s2 ((28 : Int32) + x6).toNatClampNeg) (s2 ((36 : Int32) + x6).toNatClampNeg) z9.1 z9.2 hz9) (va_cwS 8 hts gL_town_L_item rfl rfl rfl hd_L_item.2 ⟨(Nat.le_of_ble_eq_true rfl), (Nat.le_of_ble_eq_true rfl)⟩) hK hP hD hS hA (perm_of (fun c hc => by simp only [hc] <;> omega)) (perm_of (fun c hc => by simp only [hc] <;> omega)) rfl hl.1 rfl (Nat.le_of_ble_eq_true rfl) dL_town_403 ⟨(Nat.le_of_ble_eq_true rfl), (Nat.le_of_ble_eq_true rfl)⟩ (fun H locs hP hD hS => ?_)
          refine lv_if_eq (tgt := 413) hx hb dL_town_406 (by decide) (fun hc => ?_) (fun hc => ?_)
          · have h := if_t hc h
            refine lv_iconst (v := (0 : Int32)) hx hb dL_town_413 (by decide) ?_
            refine lv_istore (lv' := [(5, .int (0 : Int32)), (0, .ref (ad 6 0)), (1, .ref sa), (2, .int x2), (3, .ref ba1), (6, .int x6)]) hx hb dL_town_414 hl (by decide) rfl (fun ls hl => ?_)
            obtain ⟨v10, ev10⟩ : ∃ y : Int32, y = x6 + (1 : Int32) := ⟨_, rfl⟩
            refine lv_iinc (v := v10) (lv' := [(6, .int v10), (5, .int (0 : Int32)), (0, .ref (ad 6 0)), (1, .ref sa), (2, .int x2), (3, .ref ba1)]) hx hb dL_town_416 hl (k := 5) rfl (by rw [ev10]; rfl) (by decide) rfl (fun ls hl => ?_)
            have h := nm_ap ev10 h
            refine lv_goto (tgt := 190) hx hb dL_town_419 (by decide) ?_
            exact ih (0 : Int32) v10 z9.2 s2 _ _ hP hD hS ls (lv_sub hl [2, 3, 4, 5, 1, 0] rfl) _ h K0
          · have h := if_f hc h
            refine lv_iconst (v := (1 : Int32)) hx hb dL_town_409 (by decide) ?_
            refine lv_goto (tgt := 414) hx hb dL_town_410 (by decide) ?_
            refine lv_istore (lv' := [(5, .int (1 : Int32)), (0, .ref (ad 6 0)), (1, .ref sa), (2, .int x2), (3, .ref ba1), (6, .int x6)]) hx hb dL_town_414 hl (by decide) rfl (fun ls hl => ?_)
            obtain ⟨v11, ev11⟩ : ∃ y : Int32, y = x6 + (1 : Int32) := ⟨_, rfl⟩
            refine lv_iinc (v := v11) (lv' := [(6, .int v11), (5, .int (1 : Int32)), (0, .ref (ad 6 0)), (1, .ref sa), (2, .int x2), (3, .ref ba1)]) hx hb dL_town_416 hl (k := 5) rfl (by rw [ev11]; rfl) (by decide) rfl (fun ls hl => ?_)
            have h := nm_ap ev11 h
            refine lv_goto (tgt := 190) hx hb dL_town_419 (by decide) ?_
            exact ih (1 : Int32) v11 z9.2 s2 _ _ hP hD hS ls (lv_sub hl [2, 3, 4, 5, 1, 0] rfl) _ h K0
      have JP190_320 : ∀ (k1 : Int32) (k2 : Int32) (k3 : Int32) (x5 : Int32) (x6 : Int32) (x7 : Int32) (X : (Nat → Ob)) (B1 : (Nat → Int32)) (H : Heap) (locs : List Loc) (_ : va_P D vwCl (wX7 cA ad X ++ (([(ba1, .inl (cA, 46, .inl B1))] : va_W))) H) (_ : va_D A (wX7 cA ad X ++ (([(ba1, .inl (cA, 46, .inl B1))] : va_W)))) (_ : va_S A s.heap H locs) (ls : Array Slot) (_ : lv_has ls 8 [(0, .ref (ad 6 0)), (1, .ref sa), (2, .int x2), (3, .ref ba1), (5, .int x5), (6, .int x6), (7, .int x7)]) (_ : J_L_town_320l190 sL sxs (L_L_town_190 sL sxs x2 n) k1 k2 k3 x2 x5 x6 x7 X B1 = some res), W p l e rmL_town s m args below meth c H locs 0 0 Q (F0 m 320 ls [.int k3, .int k2, .int k1, .ref ba1]) := by
        intro k1 k2 k3 x5 x6 x7 X B1 H locs hP hD hS ls hl h
        unfold J_L_town_320l190 at h
        obtain ⟨z1, hz1, h⟩ := bd_some h
        refine cR_S (As := [.int k2, .int k3]) (rest := [.int k1, .ref ba1]) ⟨hx, hb, hml, hown, hts⟩ (c_L_some l D cA  k2 k3 z1 hz1) (va_cwS 2 hts gL_town_L_some rfl rfl rfl hd_L_some.2 ⟨(Nat.le_of_ble_eq_true rfl), (Nat.le_of_ble_eq_true rfl)⟩) hK hP [] rfl rfl hl.1 rfl (Nat.le_of_ble_eq_true rfl) dL_town_320 ⟨(Nat.le_of_ble_eq_true rfl), (Nat.le_of_ble_eq_true rfl)⟩ ?_
        obtain ⟨hi2, h⟩ := gd_some h
        have hP := P_perm (b := ([(ba1, .inl (cA, 46, .inl B1))] : va_W) ++ (wX7 cA ad X)) (perm_of (fun c hc => by simp only [hc] <;> omega)) hP
        have hD := D_perm (b := ([(ba1, .inl (cA, 46, .inl B1))] : va_W) ++ (wX7 cA ad X)) (perm_of (fun c hc => by simp only [hc] <;> omega)) hD
        refine iast (j := k1.toNatClampNeg) (wn := ([(ba1, .inl (cA, 46, .inl (upd B1 k1.toNatClampNeg z1)))] : va_W) ++ (wX7 cA ad X)) hx hb hK hP hD hS 0 rfl rfl (ck_in hi2) dL_town_323 rfl (fun H locs hP hD hS => ?_)
        have hP := P_perm (b := (wX7 cA ad X ++ (([(ba1, .inl (cA, 46, .inl (upd B1 k1.toNatClampNeg z1)))] : va_W)))) (perm_of (fun c hc => by simp only [hc] <;> omega)) hP
        have hD := D_perm (b := (wX7 cA ad X ++ (([(ba1, .inl (cA, 46, .inl (upd B1 k1.toNatClampNeg z1)))] : va_W)))) (perm_of (fun c hc => by simp only [hc] <;> omega)) hD
        obtain ⟨s3, es3⟩ : ∃ z, z = upd B1 k1.toNatClampNeg z1 := ⟨_, rfl⟩
        rw [← es3] at hP hD
        have h := nm_ap es3 h
        refine lv_aload_n hx hb dL_town_324 rfl (lv_at hl 3 rfl) ?_
        refine lv_bipush (v := (36 : Int32)) hx hb dL_town_325 (by decide) ?_
        refine lv_iload hx hb dL_town_327 (lv_at hl 5 rfl) ?_
        refine lv_iadd hx hb dL_town_329 ?_
        refine lv_iload hx hb dL_town_330 (lv_at hl 6 rfl) ?_
        refine lv_bipush (v := (20 : Int32)) hx hb dL_town_332 (by decide) ?_
        refine lv_ishr hx hb dL_town_334 ?_
        refine lv_iconst (v := (1 : Int32)) hx hb dL_town_335 (by decide) ?_
        refine lv_iand hx hb dL_town_336 ?_
        refine lv_if_ne (tgt := 352) hx hb dL_town_337 (by decide) (fun hc => ?_) (fun hc => ?_)
        · have h := if_f hc h
          refine lv_iload hx hb dL_town_352 (lv_at hl 6 rfl) ?_
          refine lv_bipush (v := (21 : Int32)) hx hb dL_town_354 (by decide) ?_
          refine lv_ishr hx hb dL_town_356 ?_
          refine lv_iconst (v := (3 : Int32)) hx hb dL_town_357 (by decide) ?_
          refine lv_iand hx hb dL_town_358 ?_
          exact JP190_359 ((36 : Int32) + x6) ((x7 >>> ((21 : Int32) &&& 31)) &&& (3 : Int32)) x5 x6 X s3 _ _ hP hD hS ls (lv_sub hl [0, 1, 2, 3, 4, 5] rfl) h
        · have h := if_t hc h
          refine lv_iload hx hb dL_town_340 (lv_at hl 6 rfl) ?_
          refine lv_bipush (v := (21 : Int32)) hx hb dL_town_342 (by decide) ?_
          refine lv_ishr hx hb dL_town_344 ?_
          refine lv_iconst (v := (2 : Int32)) hx hb dL_town_345 (by decide) ?_
          obtain ⟨z4, hz4, h⟩ := bd_some h
          refine cR_S (As := [.int (x7 >>> ((21 : Int32) &&& 31)), .int (2 : Int32)]) (rest := [.int ((36 : Int32) + x6), .ref ba1]) ⟨hx, hb, hml, hown, hts⟩ (c_L_some l D cA  (x7 >>> ((21 : Int32) &&& 31)) (2 : Int32) z4 hz4) (va_cwS 2 hts gL_town_L_some rfl rfl rfl hd_L_some.2 ⟨(Nat.le_of_ble_eq_true rfl), (Nat.le_of_ble_eq_true rfl)⟩) hK hP [] rfl rfl hl.1 rfl (Nat.le_of_ble_eq_true rfl) dL_town_346 ⟨(Nat.le_of_ble_eq_true rfl), (Nat.le_of_ble_eq_true rfl)⟩ ?_
          refine lv_goto (tgt := 359) hx hb dL_town_349 (by decide) ?_
          exact JP190_359 ((36 : Int32) + x6) z4 x5 x6 X s3 _ _ hP hD hS ls (lv_sub hl [0, 1, 2, 3, 4, 5] rfl) h
      have JP190_293 : ∀ (k1 : Int32) (k2 : Int32) (x5 : Int32) (x6 : Int32) (x7 : Int32) (X : (Nat → Ob)) (B1 : (Nat → Int32)) (H : Heap) (locs : List Loc) (_ : va_P D vwCl (wX7 cA ad X ++ (([(ba1, .inl (cA, 46, .inl B1))] : va_W))) H) (_ : va_D A (wX7 cA ad X ++ (([(ba1, .inl (cA, 46, .inl B1))] : va_W)))) (_ : va_S A s.heap H locs) (ls : Array Slot) (_ : lv_has ls 8 [(0, .ref (ad 6 0)), (1, .ref sa), (2, .int x2), (3, .ref ba1), (5, .int x5), (6, .int x6), (7, .int x7)]) (_ : J_L_town_293l190 sL sxs (L_L_town_190 sL sxs x2 n) k1 k2 x2 x5 x6 x7 X B1 = some res), W p l e rmL_town s m args below meth c H locs 0 0 Q (F0 m 293 ls [.int k2, .int k1, .ref ba1]) := by
        intro k1 k2 x5 x6 x7 X B1 H locs hP hD hS ls hl h
        unfold J_L_town_293l190 at h
        obtain ⟨hi1, h⟩ := gd_some h
        have hP := P_perm (b := ([(ba1, .inl (cA, 46, .inl B1))] : va_W) ++ (wX7 cA ad X)) (perm_of (fun c hc => by simp only [hc] <;> omega)) hP
        have hD := D_perm (b := ([(ba1, .inl (cA, 46, .inl B1))] : va_W) ++ (wX7 cA ad X)) (perm_of (fun c hc => by simp only [hc] <;> omega)) hD
        refine iast (j := k1.toNatClampNeg) (wn := ([(ba1, .inl (cA, 46, .inl (upd B1 k1.toNatClampNeg k2)))] : va_W) ++ (wX7 cA ad X)) hx hb hK hP hD hS 0 rfl rfl (ck_in hi1) dL_town_293 rfl (fun H locs hP hD hS => ?_)
        have hP := P_perm (b := (wX7 cA ad X ++ (([(ba1, .inl (cA, 46, .inl (upd B1 k1.toNatClampNeg k2)))] : va_W)))) (perm_of (fun c hc => by simp only [hc] <;> omega)) hP
        have hD := D_perm (b := (wX7 cA ad X ++ (([(ba1, .inl (cA, 46, .inl (upd B1 k1.toNatClampNeg k2)))] : va_W)))) (perm_of (fun c hc => by simp only [hc] <;> omega)) hD
        obtain ⟨s2, es2⟩ : ∃ z, z = upd B1 k1.toNatClampNeg k2 := ⟨_, rfl⟩
        rw [← es2] at hP hD
        have h := nm_ap es2 h
        refine lv_aload_n hx hb dL_town_294 rfl (lv_at hl 3 rfl) ?_
        refine lv_bipush (v := (28 : Int32)) hx hb dL_town_295 (by decide) ?_
        refine lv_iload hx hb dL_town_297 (lv_at hl 5 rfl) ?_
        refine lv_iadd hx hb dL_town_299 ?_
        refine lv_iload hx hb dL_town_300 (lv_at hl 6 rfl) ?_
        refine lv_bipush (v := (13 : Int32)) hx hb dL_town_302 (by decide) ?_
        refine lv_ishr hx hb dL_town_304 ?_
        refine lv_iload hx hb dL_town_305 (lv_at hl 6 rfl) ?_
        refine lv_ldc hx hb hown lkc38 dL_town_307 ?_
        refine lv_iand hx hb dL_town_309 ?_
        refine lv_if_ne (tgt := 318) hx hb dL_town_310 (by decide) (fun hc => ?_) (fun hc => ?_)
        · have h := if_f hc h
          refine lv_bipush (v := (100 : Int32)) hx hb dL_town_318 (by decide) ?_
          exact JP190_320 ((28 : Int32) + x6) (x7 >>> ((13 : Int32) &&& 31)) (100 : Int32) x5 x6 x7 X s2 _ _ hP hD hS ls (lv_sub hl [0, 1, 2, 3, 4, 5, 6] rfl) h
        · have h := if_t hc h
          refine lv_bipush (v := (10 : Int32)) hx hb dL_town_313 (by decide) ?_
          refine lv_goto (tgt := 320) hx hb dL_town_315 (by decide) ?_
          exact JP190_320 ((28 : Int32) + x6) (x7 >>> ((13 : Int32) &&& 31)) (10 : Int32) x5 x6 x7 X s2 _ _ hP hD hS ls (lv_sub hl [0, 1, 2, 3, 4, 5, 6] rfl) h
      refine lv_iload hx hb dL_town_190 (lv_at hl 5 rfl) ?_
      refine lv_aload_n hx hb dL_town_192 rfl (lv_at hl 3 rfl) ?_
      refine lv_iconst (v := (3 : Int32)) hx hb dL_town_193 (by decide) ?_
      refine iald (q0 := 0) (t0 := 0) (j := 3) hx hb hK (P_left (wc := ([(ba1, .inl (cA, 46, .inl B1))] : va_W)) (R := (wX7 cA ad X)) (perm_of (fun c hc => by simp only [hc] <;> omega)) hP) 0 rfl rfl (vp_in_iff.mpr (by decide)) dL_town_194 ?_
      refine lv_icmp_ge (tgt := 422) hx hb dL_town_195 (by decide) (fun hc => ?_) (fun hc => ?_)
      · have h := if_t hc h
        cases h
        exact K0 _ _ hP hD hS _ (lv_sub hl [0, 3, 4] rfl)
      · have h := if_f hc h
        refine lv_aload_n hx hb dL_town_198 rfl (lv_at hl 1 rfl) ?_
        refine lv_iload_n hx hb dL_town_199 rfl (lv_at hl 2 rfl) ?_
        refine lv_iconst (v := (1 : Int32)) hx hb dL_town_200 (by decide) ?_
        refine lv_iadd hx hb dL_town_201 ?_
        refine lv_iload hx hb dL_town_202 (lv_at hl 5 rfl) ?_
        refine lv_iadd hx hb dL_town_204 ?_
        obtain ⟨z1, hz1, h⟩ := bd_some h
        refine pX_S (As := [.ref sa, .int ((x2 + (1 : Int32)) + x6)]) (rest := []) ⟨hx, hb, hml, hown, hts⟩ (c_L_cell l D cA  sa sL sxs ((x2 + (1 : Int32)) + x6) z1 hz1) (va_cwS 2 hts gL_town_L_cell rfl rfl rfl hd_L_cell.2 ⟨(Nat.le_of_ble_eq_true rfl), (Nat.le_of_ble_eq_true rfl)⟩) hK hX hbl hbA hS rfl hl.1 rfl (Nat.le_of_ble_eq_true rfl) dL_town_205 ⟨(Nat.le_of_ble_eq_true rfl), (Nat.le_of_ble_eq_true rfl)⟩ ?_
        refine lv_istore (lv' := [(7, .int z1), (0, .ref (ad 6 0)), (1, .ref sa), (2, .int x2), (3, .ref ba1), (5, .int x5), (6, .int x6)]) hx hb dL_town_208 hl (by decide) rfl (fun ls hl => ?_)
        refine lv_aload_n hx hb dL_town_210 rfl (lv_at hl 4 rfl) ?_
        refine lv_iconst (v := (4 : Int32)) hx hb dL_town_211 (by decide) ?_
        refine lv_iload hx hb dL_town_212 (lv_at hl 6 rfl) ?_
        refine lv_iadd hx hb dL_town_214 ?_
        refine lv_iload hx hb dL_town_215 (lv_at hl 0 rfl) ?_
        refine lv_aload_n hx hb dL_town_217 rfl (lv_at hl 4 rfl) ?_
        refine lv_iconst (v := (0 : Int32)) hx hb dL_town_218 (by decide) ?_
        refine iald (q0 := 0) (t0 := 0) (j := 0) hx hb hK (P_left (wc := ([(ba1, .inl (cA, 46, .inl B1))] : va_W)) (R := (wX7 cA ad X)) (perm_of (fun c hc => by simp only [hc] <;> omega)) hP) 0 rfl rfl (vp_in_iff.mpr (by decide)) dL_town_219 ?_
        obtain ⟨z2, hz2, h⟩ := bd_some h
        refine cR_S (As := [.int z1, .int (B1 0)]) (rest := [.int ((4 : Int32) + x6), .ref ba1]) ⟨hx, hb, hml, hown, hts⟩ (c_L_some l D cA  z1 (B1 0) z2 hz2) (va_cwS 2 hts gL_town_L_some rfl rfl rfl hd_L_some.2 ⟨(Nat.le_of_ble_eq_true rfl), (Nat.le_of_ble_eq_true rfl)⟩) hK hP [] rfl rfl hl.1 rfl (Nat.le_of_ble_eq_true rfl) dL_town_220 ⟨(Nat.le_of_ble_eq_true rfl), (Nat.le_of_ble_eq_true rfl)⟩ ?_
        obtain ⟨hi3, h⟩ := gd_some h
        have hP := P_perm (b := ([(ba1, .inl (cA, 46, .inl B1))] : va_W) ++ (wX7 cA ad X)) (perm_of (fun c hc => by simp only [hc] <;> omega)) hP
        have hD := D_perm (b := ([(ba1, .inl (cA, 46, .inl B1))] : va_W) ++ (wX7 cA ad X)) (perm_of (fun c hc => by simp only [hc] <;> omega)) hD
        refine iast (j := ((4 : Int32) + x6).toNatClampNeg) (wn := ([(ba1, .inl (cA, 46, .inl (upd B1 ((4 : Int32) + x6).toNatClampNeg z2)))] : va_W) ++ (wX7 cA ad X)) hx hb hK hP hD hS 0 rfl rfl (ck_in hi3) dL_town_223 rfl (fun H locs hP hD hS => ?_)
        have hP := P_perm (b := (wX7 cA ad X ++ (([(ba1, .inl (cA, 46, .inl (upd B1 ((4 : Int32) + x6).toNatClampNeg z2)))] : va_W)))) (perm_of (fun c hc => by simp only [hc] <;> omega)) hP
        have hD := D_perm (b := (wX7 cA ad X ++ (([(ba1, .inl (cA, 46, .inl (upd B1 ((4 : Int32) + x6).toNatClampNeg z2)))] : va_W)))) (perm_of (fun c hc => by simp only [hc] <;> omega)) hD
        obtain ⟨s4, es4⟩ : ∃ z, z = upd B1 ((4 : Int32) + x6).toNatClampNeg z2 := ⟨_, rfl⟩
        rw [← es4] at hP hD
        have h := nm_ap es4 h
        refine lv_aload_n hx hb dL_town_224 rfl (lv_at hl 4 rfl) ?_
        refine lv_bipush (v := (12 : Int32)) hx hb dL_town_225 (by decide) ?_
        refine lv_iload hx hb dL_town_227 (lv_at hl 6 rfl) ?_
        refine lv_iadd hx hb dL_town_229 ?_
        refine lv_aload_n hx hb dL_town_230 rfl (lv_at hl 4 rfl) ?_
        refine lv_iconst (v := (4 : Int32)) hx hb dL_town_231 (by decide) ?_
        refine lv_iload hx hb dL_town_232 (lv_at hl 6 rfl) ?_
        refine lv_iadd hx hb dL_town_234 ?_
        refine iald (q0 := 0) (t0 := 0) (j := ((4 : Int32) + x6).toNatClampNeg) hx hb hK (P_left (wc := ([(ba1, .inl (cA, 46, .inl s4))] : va_W)) (R := (wX7 cA ad X)) (perm_of (fun c hc => by simp only [hc] <;> omega)) hP) 0 rfl rfl (ck_in hi3) dL_town_235 ?_
        refine lv_iconst (v := (1 : Int32)) hx hb dL_town_236 (by decide) ?_
        refine lv_iadd hx hb dL_town_237 ?_
        refine lv_iload hx hb dL_town_238 (lv_at hl 0 rfl) ?_
        refine lv_iconst (v := (3 : Int32)) hx hb dL_town_240 (by decide) ?_
        refine lv_ishr hx hb dL_town_241 ?_
        refine lv_aload_n hx hb dL_town_242 rfl (lv_at hl 4 rfl) ?_
        refine lv_iconst (v := (0 : Int32)) hx hb dL_town_243 (by decide) ?_
        refine iald (q0 := 0) (t0 := 0) (j := 0) hx hb hK (P_left (wc := ([(ba1, .inl (cA, 46, .inl s4))] : va_W)) (R := (wX7 cA ad X)) (perm_of (fun c hc => by simp only [hc] <;> omega)) hP) 0 rfl rfl (vp_in_iff.mpr (by decide)) dL_town_244 ?_
        refine lv_iconst (v := (1 : Int32)) hx hb dL_town_245 (by decide) ?_
        refine lv_isub hx hb dL_town_246 ?_
        obtain ⟨z5, hz5, h⟩ := bd_some h
        refine cR_S (As := [.int (z1 >>> ((3 : Int32) &&& 31)), .int ((s4 0) - (1 : Int32))]) (rest := [.int ((s4 ((4 : Int32) + x6).toNatClampNeg) + (1 : Int32)), .int ((12 : Int32) + x6), .ref ba1]) ⟨hx, hb, hml, hown, hts⟩ (c_L_some l D cA  (z1 >>> ((3 : Int32) &&& 31)) ((s4 0) - (1 : Int32)) z5 hz5) (va_cwS 2 hts gL_town_L_some rfl rfl rfl hd_L_some.2 ⟨(Nat.le_of_ble_eq_true rfl), (Nat.le_of_ble_eq_true rfl)⟩) hK hP [] rfl rfl hl.1 rfl (Nat.le_of_ble_eq_true rfl) dL_town_247 ⟨(Nat.le_of_ble_eq_true rfl), (Nat.le_of_ble_eq_true rfl)⟩ ?_
        refine lv_iadd hx hb dL_town_250 ?_
        refine lv_aload_n hx hb dL_town_251 rfl (lv_at hl 4 rfl) ?_
        refine lv_iconst (v := (0 : Int32)) hx hb dL_town_252 (by decide) ?_
        refine iald (q0 := 0) (t0 := 0) (j := 0) hx hb hK (P_left (wc := ([(ba1, .inl (cA, 46, .inl s4))] : va_W)) (R := (wX7 cA ad X)) (perm_of (fun c hc => by simp only [hc] <;> omega)) hP) 0 rfl rfl (vp_in_iff.mpr (by decide)) dL_town_253 ?_
        obtain ⟨hn6, h⟩ := gd_some h
        refine lv_irem hx hb dL_town_254 (of_decide_eq_true hn6) ?_
        obtain ⟨hi7, h⟩ := gd_some h
        have hP := P_perm (b := ([(ba1, .inl (cA, 46, .inl s4))] : va_W) ++ (wX7 cA ad X)) (perm_of (fun c hc => by simp only [hc] <;> omega)) hP
        have hD := D_perm (b := ([(ba1, .inl (cA, 46, .inl s4))] : va_W) ++ (wX7 cA ad X)) (perm_of (fun c hc => by simp only [hc] <;> omega)) hD
        refine iast (j := ((12 : Int32) + x6).toNatClampNeg) (wn := ([(ba1, .inl (cA, 46, .inl (upd s4 ((12 : Int32) + x6).toNatClampNeg ((((s4 ((4 : Int32) + x6).toNatClampNeg) + (1 : Int32)) + z5) - (((s4 ((4 : Int32) + x6).toNatClampNeg) + (1 : Int32)) + z5) / (s4 0) * (s4 0)))))] : va_W) ++ (wX7 cA ad X)) hx hb hK hP hD hS 0 rfl rfl (ck_in hi7) dL_town_255 rfl (fun H locs hP hD hS => ?_)
        have hP := P_perm (b := (wX7 cA ad X ++ (([(ba1, .inl (cA, 46, .inl (upd s4 ((12 : Int32) + x6).toNatClampNeg ((((s4 ((4 : Int32) + x6).toNatClampNeg) + (1 : Int32)) + z5) - (((s4 ((4 : Int32) + x6).toNatClampNeg) + (1 : Int32)) + z5) / (s4 0) * (s4 0)))))] : va_W)))) (perm_of (fun c hc => by simp only [hc] <;> omega)) hP
        have hD := D_perm (b := (wX7 cA ad X ++ (([(ba1, .inl (cA, 46, .inl (upd s4 ((12 : Int32) + x6).toNatClampNeg ((((s4 ((4 : Int32) + x6).toNatClampNeg) + (1 : Int32)) + z5) - (((s4 ((4 : Int32) + x6).toNatClampNeg) + (1 : Int32)) + z5) / (s4 0) * (s4 0)))))] : va_W)))) (perm_of (fun c hc => by simp only [hc] <;> omega)) hD
        obtain ⟨s8, es8⟩ : ∃ z, z = upd s4 ((12 : Int32) + x6).toNatClampNeg ((((s4 ((4 : Int32) + x6).toNatClampNeg) + (1 : Int32)) + z5) - (((s4 ((4 : Int32) + x6).toNatClampNeg) + (1 : Int32)) + z5) / (s4 0) * (s4 0)) := ⟨_, rfl⟩
        rw [← es8] at hP hD
        have h := nm_ap es8 h
        refine lv_aload_n hx hb dL_town_256 rfl (lv_at hl 4 rfl) ?_
        refine lv_bipush (v := (20 : Int32)) hx hb dL_town_257 (by decide) ?_
        refine lv_iload hx hb dL_town_259 (lv_at hl 6 rfl) ?_
        refine lv_iadd hx hb dL_town_261 ?_
        refine lv_iload hx hb dL_town_262 (lv_at hl 0 rfl) ?_
        refine lv_iconst (v := (5 : Int32)) hx hb dL_town_264 (by decide) ?_
        refine lv_ishr hx hb dL_town_265 ?_
        refine lv_iconst (v := (3 : Int32)) hx hb dL_town_266 (by decide) ?_
        refine lv_iand hx hb dL_town_267 ?_
        refine lv_if_ne (tgt := 275) hx hb dL_town_268 (by decide) (fun hc => ?_) (fun hc => ?_)
        · have h := if_f hc h
          refine lv_iload hx hb dL_town_275 (lv_at hl 0 rfl) ?_
          refine lv_bipush (v := (7 : Int32)) hx hb dL_town_277 (by decide) ?_
          refine lv_ishr hx hb dL_town_279 ?_
          refine lv_iload hx hb dL_town_280 (lv_at hl 0 rfl) ?_
          refine lv_bipush (v := (15 : Int32)) hx hb dL_town_282 (by decide) ?_
          refine lv_ishr hx hb dL_town_284 ?_
          refine lv_iand hx hb dL_town_285 ?_
          refine lv_iconst (v := (1 : Int32)) hx hb dL_town_286 (by decide) ?_
          refine lv_iload hx hb dL_town_287 (lv_at hl 6 rfl) ?_
          refine lv_ishl hx hb dL_town_289 ?_
          refine lv_iconst (v := (1 : Int32)) hx hb dL_town_290 (by decide) ?_
          refine lv_isub hx hb dL_town_291 ?_
          refine lv_iand hx hb dL_town_292 ?_
          exact JP190_293 ((20 : Int32) + x6) (((z1 >>> ((7 : Int32) &&& 31)) &&& (z1 >>> ((15 : Int32) &&& 31))) &&& (((1 : Int32) <<< (x6 &&& 31)) - (1 : Int32))) x5 x6 z1 X s8 _ _ hP hD hS ls (lv_sub hl [1, 2, 3, 4, 5, 6, 0] rfl) h
        · have h := if_t hc h
          refine lv_iconst (v := (0 : Int32)) hx hb dL_town_271 (by decide) ?_
          refine lv_goto (tgt := 293) hx hb dL_town_272 (by decide) ?_
          exact JP190_293 ((20 : Int32) + x6) (0 : Int32) x5 x6 z1 X s8 _ _ hP hD hS ls (lv_sub hl [1, 2, 3, 4, 5, 6, 0] rfl) h
  have JP0_107 : ∀ (k0 : Int32) (x2 : Int32) (x4 : Int32) (X : (Nat → Ob)) (B1 : (Nat → Int32)) (H : Heap) (locs : List Loc) (_ : va_P D vwCl (wX7 cA ad X ++ (([(ba1, .inl (cA, 46, .inl B1))] : va_W))) H) (_ : va_D A (wX7 cA ad X ++ (([(ba1, .inl (cA, 46, .inl B1))] : va_W)))) (_ : va_S A s.heap H locs) (ls : Array Slot) (_ : lv_has ls 8 [(0, .ref (ad 6 0)), (1, .ref sa), (2, .int x2), (3, .ref ba1), (4, .int x4)]) (_ : J_L_town_107 sL sxs k0 x2 x4 X B1 = some (r, X_, B1_)), W p l e rmL_town s m args below meth c H locs 0 0 Q (F0 m 107 ls [.int k0]) := by
    intro k0 x2 x4 X B1 H locs hP hD hS ls hl h
    unfold J_L_town_107 at h
    refine lv_istore (lv' := [(5, .int k0), (0, .ref (ad 6 0)), (1, .ref sa), (2, .int x2), (3, .ref ba1), (4, .int x4)]) hx hb dL_town_107 hl (by decide) rfl (fun ls hl => ?_)
    refine lv_iconst (v := (0 : Int32)) hx hb dL_town_109 (by decide) ?_
    refine lv_istore (lv' := [(6, .int (0 : Int32)), (5, .int k0), (0, .ref (ad 6 0)), (1, .ref sa), (2, .int x2), (3, .ref ba1), (4, .int x4)]) hx hb dL_town_110 hl (by decide) rfl (fun ls hl => ?_)
    obtain ⟨z1, hz1, h⟩ := bd_some h
    refine LP112 x2 x4 512 k0 (0 : Int32) X B1 _ _ hP hD hS ls (lv_sub hl [2, 3, 4, 5, 6, 1, 0] rfl) _ hz1 ?_
    · intro H locs hP hD hS ls hl
      refine lv_iconst (v := (0 : Int32)) hx hb dL_town_187 (by decide) ?_
      refine lv_istore (lv' := [(6, .int (0 : Int32)), (0, .ref (ad 6 0)), (1, .ref sa), (2, .int x2), (3, .ref ba1), (5, .int z1.1)]) hx hb dL_town_188 hl (by decide) rfl (fun ls hl => ?_)
      obtain ⟨z2, hz2, h⟩ := bd_some h
      refine LP190 x2 512 z1.1 (0 : Int32) z1.2.1 z1.2.2 _ _ hP hD hS ls (lv_sub hl [1, 2, 3, 4, 5, 0] rfl) _ hz2 ?_
      · intro H locs hP hD hS ls hl
        refine lv_iload hx hb dL_town_422 (lv_at hl 2 rfl) ?_
        refine lv_if_eq (tgt := 450) hx hb dL_town_424 (by decide) (fun hc => ?_) (fun hc => ?_)
        · have h := if_t hc h
          refine lv_iconst (v := (0 : Int32)) hx hb dL_town_450 (by decide) ?_
          cases h
          exact hend _ _ _ _ (by decide) hP hD hS dL_town_451
        · have h := if_f hc h
          refine lv_aload_n hx hb dL_town_427 rfl (lv_at hl 0 rfl) ?_
          obtain ⟨z3, hz3, h⟩ := bd_some h
          refine pW_V (As := []) (rest := []) (wr := (([(ba1, .inl (cA, 46, .inl z2.2.2))] : va_W))) (wn := (wX7 cA ad z3.2 ++ (([(ba1, .inl (cA, 46, .inl z2.2.2))] : va_W)))) ⟨hx, hb, hml, hown, hts⟩ (c_X7_fault l D cA ad z2.2.1  z3.1 z3.2 hz3) (cwV 0 hts gL_town_X7_fault rfl rfl rfl hd_X7_fault ⟨(Nat.le_of_ble_eq_true rfl), (Nat.le_of_ble_eq_true rfl)⟩) (recvK hK (P_left (wc := wX7 cA ad z2.2.1) (R := (([(ba1, .inl (cA, 46, .inl z2.2.2))] : va_W))) (perm_of (fun c hc => by simp only [hc] <;> omega)) hP) 0 7 rfl rfl) hK hP hD hS hA (perm_of (fun c hc => by simp only [hc] <;> omega)) (perm_of (fun c hc => by simp only [hc] <;> omega)) rfl hl.1 rfl (Nat.le_of_ble_eq_true rfl) dL_town_428 ⟨(Nat.le_of_ble_eq_true rfl), (Nat.le_of_ble_eq_true rfl)⟩ (fun H locs hP hD hS => ?_)
          refine lv_bipush (v := (-4 : Int32)) hx hb dL_town_431 (by decide) ?_
          refine lv_icmp_ne (tgt := 450) hx hb dL_town_433 (by decide) (fun hc => ?_) (fun hc => ?_)
          · have h := if_f hc h
            refine lv_iconst (v := (0 : Int32)) hx hb dL_town_450 (by decide) ?_
            cases h
            exact hend _ _ _ _ (by decide) hP hD hS dL_town_451
          · have h := if_t hc h
            refine lv_aload_n hx hb dL_town_436 rfl (lv_at hl 0 rfl) ?_
            obtain ⟨z4, hz4, h⟩ := bd_some h
            refine pW_V (As := []) (rest := []) (wr := (([(ba1, .inl (cA, 46, .inl z2.2.2))] : va_W))) (wn := (wX7 cA ad z4.2 ++ (([(ba1, .inl (cA, 46, .inl z2.2.2))] : va_W)))) ⟨hx, hb, hml, hown, hts⟩ (c_X7_lay l D cA ad z3.2  z4.1 z4.2 hz4) (cwV 0 hts gL_town_X7_lay rfl rfl rfl hd_X7_lay ⟨(Nat.le_of_ble_eq_true rfl), (Nat.le_of_ble_eq_true rfl)⟩) (recvK hK (P_left (wc := wX7 cA ad z3.2) (R := (([(ba1, .inl (cA, 46, .inl z2.2.2))] : va_W))) (perm_of (fun c hc => by simp only [hc] <;> omega)) hP) 0 7 rfl rfl) hK hP hD hS hA (perm_of (fun c hc => by simp only [hc] <;> omega)) (perm_of (fun c hc => by simp only [hc] <;> omega)) rfl hl.1 rfl (Nat.le_of_ble_eq_true rfl) dL_town_437 ⟨(Nat.le_of_ble_eq_true rfl), (Nat.le_of_ble_eq_true rfl)⟩ (fun H locs hP hD hS => ?_)
            refine lv_aload_n hx hb dL_town_440 rfl (lv_at hl 1 rfl) ?_
            refine lv_iconst (v := (3 : Int32)) hx hb dL_town_441 (by decide) ?_
            refine iald (q0 := 0) (t0 := 0) (j := 3) hx hb hK (P_left (wc := ([(ba1, .inl (cA, 46, .inl z2.2.2))] : va_W)) (R := (wX7 cA ad z4.2)) (perm_of (fun c hc => by simp only [hc] <;> omega)) hP) 0 rfl rfl (vp_in_iff.mpr (by decide)) dL_town_442 ?_
            refine lv_icmp_ne (tgt := 450) hx hb dL_town_443 (by decide) (fun hc => ?_) (fun hc => ?_)
            · have h := if_f hc h
              refine lv_iconst (v := (0 : Int32)) hx hb dL_town_450 (by decide) ?_
              cases h
              exact hend _ _ _ _ (by decide) hP hD hS dL_town_451
            · have h := if_t hc h
              refine lv_iconst (v := (1 : Int32)) hx hb dL_town_446 (by decide) ?_
              refine lv_goto (tgt := 451) hx hb dL_town_447 (by decide) ?_
              cases h
              exact hend _ _ _ _ (by decide) hP hD hS dL_town_451
  have JP0_106 : ∀ (x2 : Int32) (x4 : Int32) (X : (Nat → Ob)) (B1 : (Nat → Int32)) (H : Heap) (locs : List Loc) (_ : va_P D vwCl (wX7 cA ad X ++ (([(ba1, .inl (cA, 46, .inl B1))] : va_W))) H) (_ : va_D A (wX7 cA ad X ++ (([(ba1, .inl (cA, 46, .inl B1))] : va_W)))) (_ : va_S A s.heap H locs) (ls : Array Slot) (_ : lv_has ls 8 [(0, .ref (ad 6 0)), (1, .ref sa), (2, .int x2), (3, .ref ba1), (4, .int x4)]) (_ : J_L_town_106 sL sxs x2 x4 X B1 = some (r, X_, B1_)), W p l e rmL_town s m args below meth c H locs 0 0 Q (F0 m 106 ls []) := by
    intro x2 x4 X B1 H locs hP hD hS ls hl h
    unfold J_L_town_106 at h
    refine lv_iconst (v := (0 : Int32)) hx hb dL_town_106 (by decide) ?_
    exact JP0_107 (0 : Int32) x2 x4 X B1 _ _ hP hD hS ls (lv_sub hl [0, 1, 2, 3, 4] rfl) h
  have JP0_47 : ∀ (k1 : Int32) (k2 : Int32) (x2 : Int32) (x4 : Int32) (X : (Nat → Ob)) (B1 : (Nat → Int32)) (H : Heap) (locs : List Loc) (_ : va_P D vwCl (wX7 cA ad X ++ (([(ba1, .inl (cA, 46, .inl B1))] : va_W))) H) (_ : va_D A (wX7 cA ad X ++ (([(ba1, .inl (cA, 46, .inl B1))] : va_W)))) (_ : va_S A s.heap H locs) (ls : Array Slot) (_ : lv_has ls 8 [(0, .ref (ad 6 0)), (1, .ref sa), (2, .int x2), (3, .ref ba1), (4, .int x4)]) (_ : J_L_town_47 sL sxs k1 k2 x2 x4 X B1 = some (r, X_, B1_)), W p l e rmL_town s m args below meth c H locs 0 0 Q (F0 m 47 ls [.int k2, .int k1, .ref ba1]) := by
    intro k1 k2 x2 x4 X B1 H locs hP hD hS ls hl h
    unfold J_L_town_47 at h
    obtain ⟨hi1, h⟩ := gd_some h
    have hP := P_perm (b := ([(ba1, .inl (cA, 46, .inl B1))] : va_W) ++ (wX7 cA ad X)) (perm_of (fun c hc => by simp only [hc] <;> omega)) hP
    have hD := D_perm (b := ([(ba1, .inl (cA, 46, .inl B1))] : va_W) ++ (wX7 cA ad X)) (perm_of (fun c hc => by simp only [hc] <;> omega)) hD
    refine iast (j := k1.toNatClampNeg) (wn := ([(ba1, .inl (cA, 46, .inl (upd B1 k1.toNatClampNeg k2)))] : va_W) ++ (wX7 cA ad X)) hx hb hK hP hD hS 0 rfl rfl (ck_in hi1) dL_town_47 rfl (fun H locs hP hD hS => ?_)
    have hP := P_perm (b := (wX7 cA ad X ++ (([(ba1, .inl (cA, 46, .inl (upd B1 k1.toNatClampNeg k2)))] : va_W)))) (perm_of (fun c hc => by simp only [hc] <;> omega)) hP
    have hD := D_perm (b := (wX7 cA ad X ++ (([(ba1, .inl (cA, 46, .inl (upd B1 k1.toNatClampNeg k2)))] : va_W)))) (perm_of (fun c hc => by simp only [hc] <;> omega)) hD
    obtain ⟨s2, es2⟩ : ∃ z, z = upd B1 k1.toNatClampNeg k2 := ⟨_, rfl⟩
    rw [← es2] at hP hD
    have h := nm_ap es2 h
    refine lv_aload_n hx hb dL_town_48 rfl (lv_at hl 3 rfl) ?_
    refine lv_iconst (v := (3 : Int32)) hx hb dL_town_49 (by decide) ?_
    refine lv_iconst (v := (1 : Int32)) hx hb dL_town_50 (by decide) ?_
    refine lv_iload hx hb dL_town_51 (lv_at hl 4 rfl) ?_
    refine lv_iconst (v := (5 : Int32)) hx hb dL_town_53 (by decide) ?_
    refine lv_ishr hx hb dL_town_54 ?_
    refine lv_bipush (v := (6 : Int32)) hx hb dL_town_55 (by decide) ?_
    obtain ⟨z3, hz3, h⟩ := bd_some h
    refine cR_S (As := [.int (x4 >>> ((5 : Int32) &&& 31)), .int (6 : Int32)]) (rest := [.int (1 : Int32), .int (3 : Int32), .ref ba1]) ⟨hx, hb, hml, hown, hts⟩ (c_L_some l D cA  (x4 >>> ((5 : Int32) &&& 31)) (6 : Int32) z3 hz3) (va_cwS 2 hts gL_town_L_some rfl rfl rfl hd_L_some.2 ⟨(Nat.le_of_ble_eq_true rfl), (Nat.le_of_ble_eq_true rfl)⟩) hK hP [] rfl rfl hl.1 rfl (Nat.le_of_ble_eq_true rfl) dL_town_57 ⟨(Nat.le_of_ble_eq_true rfl), (Nat.le_of_ble_eq_true rfl)⟩ ?_
    refine lv_iadd hx hb dL_town_60 ?_
    have hP := P_perm (b := ([(ba1, .inl (cA, 46, .inl s2))] : va_W) ++ (wX7 cA ad X)) (perm_of (fun c hc => by simp only [hc] <;> omega)) hP
    have hD := D_perm (b := ([(ba1, .inl (cA, 46, .inl s2))] : va_W) ++ (wX7 cA ad X)) (perm_of (fun c hc => by simp only [hc] <;> omega)) hD
    refine iast (j := 3) (wn := ([(ba1, .inl (cA, 46, .inl (upd s2 3 ((1 : Int32) + z3))))] : va_W) ++ (wX7 cA ad X)) hx hb hK hP hD hS 0 rfl rfl (vp_in_iff.mpr (by decide)) dL_town_61 rfl (fun H locs hP hD hS => ?_)
    have hP := P_perm (b := (wX7 cA ad X ++ (([(ba1, .inl (cA, 46, .inl (upd s2 3 ((1 : Int32) + z3))))] : va_W)))) (perm_of (fun c hc => by simp only [hc] <;> omega)) hP
    have hD := D_perm (b := (wX7 cA ad X ++ (([(ba1, .inl (cA, 46, .inl (upd s2 3 ((1 : Int32) + z3))))] : va_W)))) (perm_of (fun c hc => by simp only [hc] <;> omega)) hD
    obtain ⟨s4, es4⟩ : ∃ z, z = upd s2 3 ((1 : Int32) + z3) := ⟨_, rfl⟩
    rw [← es4] at hP hD
    have h := nm_ap es4 h
    refine lv_aload_n hx hb dL_town_62 rfl (lv_at hl 3 rfl) ?_
    refine lv_bipush (v := (44 : Int32)) hx hb dL_town_63 (by decide) ?_
    refine lv_iconst (v := (1 : Int32)) hx hb dL_town_65 (by decide) ?_
    refine lv_aload_n hx hb dL_town_66 rfl (lv_at hl 3 rfl) ?_
    refine lv_iconst (v := (3 : Int32)) hx hb dL_town_67 (by decide) ?_
    refine iald (q0 := 0) (t0 := 0) (j := 3) hx hb hK (P_left (wc := ([(ba1, .inl (cA, 46, .inl s4))] : va_W)) (R := (wX7 cA ad X)) (perm_of (fun c hc => by simp only [hc] <;> omega)) hP) 0 rfl rfl (vp_in_iff.mpr (by decide)) dL_town_68 ?_
    refine lv_ishl hx hb dL_town_69 ?_
    refine lv_iconst (v := (1 : Int32)) hx hb dL_town_70 (by decide) ?_
    refine lv_isub hx hb dL_town_71 ?_
    have hP := P_perm (b := ([(ba1, .inl (cA, 46, .inl s4))] : va_W) ++ (wX7 cA ad X)) (perm_of (fun c hc => by simp only [hc] <;> omega)) hP
    have hD := D_perm (b := ([(ba1, .inl (cA, 46, .inl s4))] : va_W) ++ (wX7 cA ad X)) (perm_of (fun c hc => by simp only [hc] <;> omega)) hD
    refine iast (j := 44) (wn := ([(ba1, .inl (cA, 46, .inl (upd s4 44 (((1 : Int32) <<< ((s4 3) &&& 31)) - (1 : Int32)))))] : va_W) ++ (wX7 cA ad X)) hx hb hK hP hD hS 0 rfl rfl (vp_in_iff.mpr (by decide)) dL_town_72 rfl (fun H locs hP hD hS => ?_)
    have hP := P_perm (b := (wX7 cA ad X ++ (([(ba1, .inl (cA, 46, .inl (upd s4 44 (((1 : Int32) <<< ((s4 3) &&& 31)) - (1 : Int32)))))] : va_W)))) (perm_of (fun c hc => by simp only [hc] <;> omega)) hP
    have hD := D_perm (b := (wX7 cA ad X ++ (([(ba1, .inl (cA, 46, .inl (upd s4 44 (((1 : Int32) <<< ((s4 3) &&& 31)) - (1 : Int32)))))] : va_W)))) (perm_of (fun c hc => by simp only [hc] <;> omega)) hD
    obtain ⟨s5, es5⟩ : ∃ z, z = upd s4 44 (((1 : Int32) <<< ((s4 3) &&& 31)) - (1 : Int32)) := ⟨_, rfl⟩
    rw [← es5] at hP hD
    have h := nm_ap es5 h
    refine lv_aload_n hx hb dL_town_73 rfl (lv_at hl 3 rfl) ?_
    refine lv_bipush (v := (45 : Int32)) hx hb dL_town_74 (by decide) ?_
    refine lv_iconst (v := (0 : Int32)) hx hb dL_town_76 (by decide) ?_
    have hP := P_perm (b := ([(ba1, .inl (cA, 46, .inl s5))] : va_W) ++ (wX7 cA ad X)) (perm_of (fun c hc => by simp only [hc] <;> omega)) hP
    have hD := D_perm (b := ([(ba1, .inl (cA, 46, .inl s5))] : va_W) ++ (wX7 cA ad X)) (perm_of (fun c hc => by simp only [hc] <;> omega)) hD
    refine iast (j := 45) (wn := ([(ba1, .inl (cA, 46, .inl (upd s5 45 (0 : Int32))))] : va_W) ++ (wX7 cA ad X)) hx hb hK hP hD hS 0 rfl rfl (vp_in_iff.mpr (by decide)) dL_town_77 rfl (fun H locs hP hD hS => ?_)
    have hP := P_perm (b := (wX7 cA ad X ++ (([(ba1, .inl (cA, 46, .inl (upd s5 45 (0 : Int32))))] : va_W)))) (perm_of (fun c hc => by simp only [hc] <;> omega)) hP
    have hD := D_perm (b := (wX7 cA ad X ++ (([(ba1, .inl (cA, 46, .inl (upd s5 45 (0 : Int32))))] : va_W)))) (perm_of (fun c hc => by simp only [hc] <;> omega)) hD
    obtain ⟨s6, es6⟩ : ∃ z, z = upd s5 45 (0 : Int32) := ⟨_, rfl⟩
    rw [← es6] at hP hD
    have h := nm_ap es6 h
    refine lv_aload_n hx hb dL_town_78 rfl (lv_at hl 0 rfl) ?_
    obtain ⟨z7, hz7, h⟩ := bd_some h
    refine pW_V (As := []) (rest := []) (wr := (([(ba1, .inl (cA, 46, .inl s6))] : va_W))) (wn := (wX7 cA ad z7.2 ++ (([(ba1, .inl (cA, 46, .inl s6))] : va_W)))) ⟨hx, hb, hml, hown, hts⟩ (c_X7_wipe l D cA ad X  z7.1 z7.2 hz7) (cwV 0 hts gL_town_X7_wipe rfl rfl rfl hd_X7_wipe ⟨(Nat.le_of_ble_eq_true rfl), (Nat.le_of_ble_eq_true rfl)⟩) (recvK hK (P_left (wc := wX7 cA ad X) (R := (([(ba1, .inl (cA, 46, .inl s6))] : va_W))) (perm_of (fun c hc => by simp only [hc] <;> omega)) hP) 0 7 rfl rfl) hK hP hD hS hA (perm_of (fun c hc => by simp only [hc] <;> omega)) (perm_of (fun c hc => by simp only [hc] <;> omega)) rfl hl.1 rfl (Nat.le_of_ble_eq_true rfl) dL_town_79 ⟨(Nat.le_of_ble_eq_true rfl), (Nat.le_of_ble_eq_true rfl)⟩ (fun H locs hP hD hS => ?_)
    refine lv_if_lt (tgt := 106) hx hb dL_town_82 (by decide) (fun hc => ?_) (fun hc => ?_)
    · have h := if_t hc h
      exact JP0_106 x2 x4 z7.2 s6 _ _ hP hD hS ls (lv_sub hl [0, 1, 2, 3, 4] rfl) h
    · have h := if_f hc h
      refine lv_aload_n hx hb dL_town_85 rfl (lv_at hl 0 rfl) ?_
      refine lv_bipush (v := (108 : Int32)) hx hb dL_town_86 (by decide) ?_
      refine lv_iconst (v := (1 : Int32)) hx hb dL_town_88 (by decide) ?_
      refine lv_aload_n hx hb dL_town_89 rfl (lv_at hl 3 rfl) ?_
      refine lv_iconst (v := (2 : Int32)) hx hb dL_town_90 (by decide) ?_
      refine iald (q0 := 0) (t0 := 0) (j := 2) hx hb hK (P_left (wc := ([(ba1, .inl (cA, 46, .inl s6))] : va_W)) (R := (wX7 cA ad z7.2)) (perm_of (fun c hc => by simp only [hc] <;> omega)) hP) 0 rfl rfl (vp_in_iff.mpr (by decide)) dL_town_91 ?_
      refine lv_iconst (v := (0 : Int32)) hx hb dL_town_92 (by decide) ?_
      refine lv_iconst (v := (0 : Int32)) hx hb dL_town_93 (by decide) ?_
      refine lv_iconst (v := (0 : Int32)) hx hb dL_town_94 (by decide) ?_
      refine lv_iconst (v := (0 : Int32)) hx hb dL_town_95 (by decide) ?_
      obtain ⟨z8, hz8, h⟩ := bd_some h
      refine pW_S (As := [.ref (ad 6 0), .int (108 : Int32), .int (1 : Int32), .int (s6 2), .int (0 : Int32), .int (0 : Int32), .int (0 : Int32), .int (0 : Int32)]) (rest := []) (wr := (([(ba1, .inl (cA, 46, .inl s6))] : va_W))) (wn := (wX7 cA ad z8.2 ++ (([(ba1, .inl (cA, 46, .inl s6))] : va_W)))) ⟨hx, hb, hml, hown, hts⟩ (c_L_item l D cA ad z7.2 (108 : Int32) (1 : Int32) (s6 2) (0 : Int32) (0 : Int32) (0 : Int32) (0 : Int32) z8.1 z8.2 hz8) (va_cwS 8 hts gL_town_L_item rfl rfl rfl hd_L_item.2 ⟨(Nat.le_of_ble_eq_true rfl), (Nat.le_of_ble_eq_true rfl)⟩) hK hP hD hS hA (perm_of (fun c hc => by simp only [hc] <;> omega)) (perm_of (fun c hc => by simp only [hc] <;> omega)) rfl hl.1 rfl (Nat.le_of_ble_eq_true rfl) dL_town_96 ⟨(Nat.le_of_ble_eq_true rfl), (Nat.le_of_ble_eq_true rfl)⟩ (fun H locs hP hD hS => ?_)
      refine lv_if_eq (tgt := 106) hx hb dL_town_99 (by decide) (fun hc => ?_) (fun hc => ?_)
      · have h := if_t hc h
        exact JP0_106 x2 x4 z8.2 s6 _ _ hP hD hS ls (lv_sub hl [0, 1, 2, 3, 4] rfl) h
      · have h := if_f hc h
        refine lv_iconst (v := (1 : Int32)) hx hb dL_town_102 (by decide) ?_
        refine lv_goto (tgt := 107) hx hb dL_town_103 (by decide) ?_
        exact JP0_107 (1 : Int32) x2 x4 z8.2 s6 _ _ hP hD hS ls (lv_sub hl [0, 1, 2, 3, 4] rfl) h
  refine lv_aload_n hx hb dL_town_0 rfl (lv_at hl 1 rfl) ?_
  refine lv_iload_n hx hb dL_town_1 rfl (lv_at hl 2 rfl) ?_
  obtain ⟨z1, hz1, h⟩ := bd_some h
  refine pX_S (As := [.ref sa, .int x2]) (rest := []) ⟨hx, hb, hml, hown, hts⟩ (c_L_cell l D cA  sa sL sxs x2 z1 hz1) (va_cwS 2 hts gL_town_L_cell rfl rfl rfl hd_L_cell.2 ⟨(Nat.le_of_ble_eq_true rfl), (Nat.le_of_ble_eq_true rfl)⟩) hK hX hbl hbA hS rfl hl.1 rfl (Nat.le_of_ble_eq_true rfl) dL_town_2 ⟨(Nat.le_of_ble_eq_true rfl), (Nat.le_of_ble_eq_true rfl)⟩ ?_
  refine lv_istore (lv' := [(4, .int z1), (0, .ref (ad 6 0)), (1, .ref sa), (2, .int x2), (3, .ref ba1)]) hx hb dL_town_5 hl (by decide) rfl (fun ls hl => ?_)
  refine lv_aload_n hx hb dL_town_7 rfl (lv_at hl 4 rfl) ?_
  refine lv_iconst (v := (0 : Int32)) hx hb dL_town_8 (by decide) ?_
  refine lv_iconst (v := (2 : Int32)) hx hb dL_town_9 (by decide) ?_
  refine lv_iload hx hb dL_town_10 (lv_at hl 0 rfl) ?_
  refine lv_iconst (v := (4 : Int32)) hx hb dL_town_12 (by decide) ?_
  obtain ⟨z2, hz2, h⟩ := bd_some h
  refine cR_S (As := [.int z1, .int (4 : Int32)]) (rest := [.int (2 : Int32), .int (0 : Int32), .ref ba1]) ⟨hx, hb, hml, hown, hts⟩ (c_L_some l D cA  z1 (4 : Int32) z2 hz2) (va_cwS 2 hts gL_town_L_some rfl rfl rfl hd_L_some.2 ⟨(Nat.le_of_ble_eq_true rfl), (Nat.le_of_ble_eq_true rfl)⟩) hK hP [] rfl rfl hl.1 rfl (Nat.le_of_ble_eq_true rfl) dL_town_13 ⟨(Nat.le_of_ble_eq_true rfl), (Nat.le_of_ble_eq_true rfl)⟩ ?_
  refine lv_iadd hx hb dL_town_16 ?_
  have hP := P_perm (b := ([(ba1, .inl (cA, 46, .inl B1))] : va_W) ++ (wX7 cA ad X)) (perm_of (fun c hc => by simp only [hc] <;> omega)) hP
  have hD := D_perm (b := ([(ba1, .inl (cA, 46, .inl B1))] : va_W) ++ (wX7 cA ad X)) (perm_of (fun c hc => by simp only [hc] <;> omega)) hD
  refine iast (j := 0) (wn := ([(ba1, .inl (cA, 46, .inl (upd B1 0 ((2 : Int32) + z2))))] : va_W) ++ (wX7 cA ad X)) hx hb hK hP hD hS 0 rfl rfl (vp_in_iff.mpr (by decide)) dL_town_17 rfl (fun H locs hP hD hS => ?_)
  have hP := P_perm (b := (wX7 cA ad X ++ (([(ba1, .inl (cA, 46, .inl (upd B1 0 ((2 : Int32) + z2))))] : va_W)))) (perm_of (fun c hc => by simp only [hc] <;> omega)) hP
  have hD := D_perm (b := (wX7 cA ad X ++ (([(ba1, .inl (cA, 46, .inl (upd B1 0 ((2 : Int32) + z2))))] : va_W)))) (perm_of (fun c hc => by simp only [hc] <;> omega)) hD
  obtain ⟨s3, es3⟩ : ∃ z, z = upd B1 0 ((2 : Int32) + z2) := ⟨_, rfl⟩
  rw [← es3] at hP hD
  have h := nm_ap es3 h
  refine lv_aload_n hx hb dL_town_18 rfl (lv_at hl 4 rfl) ?_
  refine lv_iconst (v := (1 : Int32)) hx hb dL_town_19 (by decide) ?_
  refine lv_iconst (v := (0 : Int32)) hx hb dL_town_20 (by decide) ?_
  have hP := P_perm (b := ([(ba1, .inl (cA, 46, .inl s3))] : va_W) ++ (wX7 cA ad X)) (perm_of (fun c hc => by simp only [hc] <;> omega)) hP
  have hD := D_perm (b := ([(ba1, .inl (cA, 46, .inl s3))] : va_W) ++ (wX7 cA ad X)) (perm_of (fun c hc => by simp only [hc] <;> omega)) hD
  refine iast (j := 1) (wn := ([(ba1, .inl (cA, 46, .inl (upd s3 1 (0 : Int32))))] : va_W) ++ (wX7 cA ad X)) hx hb hK hP hD hS 0 rfl rfl (vp_in_iff.mpr (by decide)) dL_town_21 rfl (fun H locs hP hD hS => ?_)
  have hP := P_perm (b := (wX7 cA ad X ++ (([(ba1, .inl (cA, 46, .inl (upd s3 1 (0 : Int32))))] : va_W)))) (perm_of (fun c hc => by simp only [hc] <;> omega)) hP
  have hD := D_perm (b := (wX7 cA ad X ++ (([(ba1, .inl (cA, 46, .inl (upd s3 1 (0 : Int32))))] : va_W)))) (perm_of (fun c hc => by simp only [hc] <;> omega)) hD
  obtain ⟨s4, es4⟩ : ∃ z, z = upd s3 1 (0 : Int32) := ⟨_, rfl⟩
  rw [← es4] at hP hD
  have h := nm_ap es4 h
  refine lv_aload_n hx hb dL_town_22 rfl (lv_at hl 4 rfl) ?_
  refine lv_iconst (v := (2 : Int32)) hx hb dL_town_23 (by decide) ?_
  refine lv_iload hx hb dL_town_24 (lv_at hl 0 rfl) ?_
  refine lv_iconst (v := (3 : Int32)) hx hb dL_town_26 (by decide) ?_
  refine lv_ishr hx hb dL_town_27 ?_
  refine lv_iconst (v := (3 : Int32)) hx hb dL_town_28 (by decide) ?_
  refine lv_iand hx hb dL_town_29 ?_
  have hP := P_perm (b := ([(ba1, .inl (cA, 46, .inl s4))] : va_W) ++ (wX7 cA ad X)) (perm_of (fun c hc => by simp only [hc] <;> omega)) hP
  have hD := D_perm (b := ([(ba1, .inl (cA, 46, .inl s4))] : va_W) ++ (wX7 cA ad X)) (perm_of (fun c hc => by simp only [hc] <;> omega)) hD
  refine iast (j := 2) (wn := ([(ba1, .inl (cA, 46, .inl (upd s4 2 ((z1 >>> ((3 : Int32) &&& 31)) &&& (3 : Int32)))))] : va_W) ++ (wX7 cA ad X)) hx hb hK hP hD hS 0 rfl rfl (vp_in_iff.mpr (by decide)) dL_town_30 rfl (fun H locs hP hD hS => ?_)
  have hP := P_perm (b := (wX7 cA ad X ++ (([(ba1, .inl (cA, 46, .inl (upd s4 2 ((z1 >>> ((3 : Int32) &&& 31)) &&& (3 : Int32)))))] : va_W)))) (perm_of (fun c hc => by simp only [hc] <;> omega)) hP
  have hD := D_perm (b := (wX7 cA ad X ++ (([(ba1, .inl (cA, 46, .inl (upd s4 2 ((z1 >>> ((3 : Int32) &&& 31)) &&& (3 : Int32)))))] : va_W)))) (perm_of (fun c hc => by simp only [hc] <;> omega)) hD
  obtain ⟨s5, es5⟩ : ∃ z, z = upd s4 2 ((z1 >>> ((3 : Int32) &&& 31)) &&& (3 : Int32)) := ⟨_, rfl⟩
  rw [← es5] at hP hD
  have h := nm_ap es5 h
  refine lv_aload_n hx hb dL_town_31 rfl (lv_at hl 4 rfl) ?_
  refine lv_iconst (v := (2 : Int32)) hx hb dL_town_32 (by decide) ?_
  refine lv_aload_n hx hb dL_town_33 rfl (lv_at hl 4 rfl) ?_
  refine lv_iconst (v := (2 : Int32)) hx hb dL_town_34 (by decide) ?_
  refine iald (q0 := 0) (t0 := 0) (j := 2) hx hb hK (P_left (wc := ([(ba1, .inl (cA, 46, .inl s5))] : va_W)) (R := (wX7 cA ad X)) (perm_of (fun c hc => by simp only [hc] <;> omega)) hP) 0 rfl rfl (vp_in_iff.mpr (by decide)) dL_town_35 ?_
  refine lv_iconst (v := (3 : Int32)) hx hb dL_town_36 (by decide) ?_
  refine lv_icmp_ne (tgt := 44) hx hb dL_town_37 (by decide) (fun hc => ?_) (fun hc => ?_)
  · have h := if_f hc h
    refine lv_aload_n hx hb dL_town_44 rfl (lv_at hl 4 rfl) ?_
    refine lv_iconst (v := (2 : Int32)) hx hb dL_town_45 (by decide) ?_
    refine iald (q0 := 0) (t0 := 0) (j := 2) hx hb hK (P_left (wc := ([(ba1, .inl (cA, 46, .inl s5))] : va_W)) (R := (wX7 cA ad X)) (perm_of (fun c hc => by simp only [hc] <;> omega)) hP) 0 rfl rfl (vp_in_iff.mpr (by decide)) dL_town_46 ?_
    exact JP0_47 (2 : Int32) (s5 2) x2 z1 X s5 _ _ hP hD hS ls (lv_sub hl [1, 2, 3, 4, 0] rfl) h
  · have h := if_t hc h
    refine lv_iconst (v := (0 : Int32)) hx hb dL_town_40 (by decide) ?_
    refine lv_goto (tgt := 47) hx hb dL_town_41 (by decide) ?_
    exact JP0_47 (2 : Int32) (0 : Int32) x2 z1 X s5 _ _ hP hD hS ls (lv_sub hl [1, 2, 3, 4, 0] rfl) h
def f_L_act (X : (Nat → Ob)) (B1 : (Nat → Int32)) (x1 : Int32) (x2 : Int32) : Option (Int64 × (Nat → Ob)) := bd (f_L_some x2 (B1 3)) (fun z1 => bd (f_L_some (x2 >>> ((3 : Int32) &&& 31)) (B1 0)) (fun z2 => if x1 &&& (15 : Int32) = (0 : Int32) then bd (f_X7_undo X z1) (fun z4 => some (z4.1.toInt64, z4.2)) else if x1 &&& (15 : Int32) = (1 : Int32) then bd (f_X7_undo X z1) (fun z6 => some (z6.1.toInt64, z6.2)) else if x1 &&& (15 : Int32) = (2 : Int32) then gd (decide (¬ B1 0 = (0 : Int32))) (bd (f_L_some (x2 >>> ((6 : Int32) &&& 31)) (100 : Int32)) (fun z9 => bd (f_X7_tie X z2 ((z2 + (1 : Int32)) - (z2 + (1 : Int32)) / (B1 0) * (B1 0)) (((x1 >>> ((4 : Int32) &&& 31)) &&& (x1 >>> ((12 : Int32) &&& 31))) &&& (255 : Int32)) z9 ((x2 >>> ((14 : Int32) &&& 31)) &&& (3 : Int32))) (fun z10 => some (z10.1.toInt64, z10.2)))) else if x1 &&& (15 : Int32) = (3 : Int32) then gd (decide (¬ B1 0 = (0 : Int32))) (bd (f_L_some (x2 >>> ((6 : Int32) &&& 31)) (100 : Int32)) (fun z13 => bd (f_X7_tie X z2 ((z2 + (1 : Int32)) - (z2 + (1 : Int32)) / (B1 0) * (B1 0)) (((x1 >>> ((4 : Int32) &&& 31)) &&& (x1 >>> ((12 : Int32) &&& 31))) &&& (255 : Int32)) z13 ((x2 >>> ((14 : Int32) &&& 31)) &&& (3 : Int32))) (fun z14 => some (z14.1.toInt64, z14.2)))) else if x1 &&& (15 : Int32) = (4 : Int32) then if x1 &&& (16 : Int32) = (0 : Int32) then bd (f_X7_pull X z1) (fun z17 => some (z17.1.toInt64, z17.2)) else bd (f_X7_cut X z1) (fun z16 => some (z16.1.toInt64, z16.2)) else if x1 &&& (15 : Int32) = (5 : Int32) then bd (f_L_some (x1 >>> ((4 : Int32) &&& 31)) (20 : Int32)) (fun z19 => bd (f_X7_days X ((1 : Int32) + z19)) (fun z20 => some (z20.1.toInt64, z20.2))) else if x1 &&& (15 : Int32) = (6 : Int32) then bd (f_X7_takeBack X) (fun z22 => some (z22.1.toInt64, z22.2)) else if x1 &&& (15 : Int32) = (7 : Int32) then bd (f_X7_loosen X z1) (fun z24 => bd (f_L_some (x1 >>> ((4 : Int32) &&& 31)) (5 : Int32)) (fun z25 => bd (f_X7_pay X (z25 - (1 : Int32))) (fun z26 => some ((z24.toInt64 * (100 : Int64)) + z26.toInt64, X)))) else if x1 &&& (15 : Int32) = (8 : Int32) then bd (f_X7_forEver X) (fun z28 => bd (f_X7_frees X z2) (fun z29 => some ((z28.toInt64 * (100 : Int64)) + z29.toInt64, X))) else if x1 &&& (15 : Int32) = (9 : Int32) then bd (f_L_some (x1 >>> ((4 : Int32) &&& 31)) (3 : Int32)) (fun z31 => bd (f_L_some x2 ((1 : Int32) <<< ((B1 3) &&& 31))) (fun z32 => bd (f_X7_fresh X ((1 : Int32) + z31) z32 ((x1 >>> ((8 : Int32) &&& 31)) &&& (1 : Int32))) (fun z33 => some (z33.toInt64, X)))) else if x1 &&& (15 : Int32) = (10 : Int32) then bd (f_X7_orders X) (fun z35 => some (z35.1.toInt64, z35.2)) else if x1 &&& (15 : Int32) = (11 : Int32) then if x1 &&& (112 : Int32) = (0 : Int32) then bd (f_X7_noRow X) (fun z39 => some (z39.1.toInt64, z39.2)) else bd (f_X7_tell X z1) (fun z37 => bd (f_X7_judge z37.2) (fun z38 => some ((z37.1.toInt64 * (100 : Int64)) + z38.toInt64, z37.2))) else if x1 &&& (15 : Int32) = (12 : Int32) then if x1 &&& (240 : Int32) = (0 : Int32) then bd (f_X7_smooth X (x2 &&& (1 : Int32))) (fun z48 => some (z48.1.toInt64, z48.2)) else bd (f_L_some (x1 >>> ((8 : Int32) &&& 31)) (8 : Int32)) (fun z41 => bd (f_X7_cross X (x2 &&& (1 : Int32)) z41) (fun z42 => bd (f_X7_alike z42.2) (fun z43 => bd (f_L_some (x1 >>> ((11 : Int32) &&& 31)) (4 : Int32)) (fun z44 => bd (f_X7_mark z42.2 (x2 &&& (1 : Int32)) z44) (fun z45 => bd (f_L_some (x2 >>> ((1 : Int32) &&& 31)) (5 : Int32)) (fun z46 => bd (f_X7_loose z42.2 (x2 &&& (1 : Int32)) (z46 - (1 : Int32))) (fun z47 => some ((((z42.1.toInt64 * (100000 : Int64)) + (z43.toInt64 * (10000 : Int64))) + (z45.toInt64 * (10 : Int64))) + z47.toInt64, z42.2)))))))) else if x1 &&& (15 : Int32) = (13 : Int32) then if x1 &&& (240 : Int32) = (0 : Int32) then bd (f_X7_smooth X (x2 &&& (1 : Int32))) (fun z57 => some (z57.1.toInt64, z57.2)) else bd (f_L_some (x1 >>> ((8 : Int32) &&& 31)) (8 : Int32)) (fun z50 => bd (f_X7_cross X (x2 &&& (1 : Int32)) z50) (fun z51 => bd (f_X7_alike z51.2) (fun z52 => bd (f_L_some (x1 >>> ((11 : Int32) &&& 31)) (4 : Int32)) (fun z53 => bd (f_X7_mark z51.2 (x2 &&& (1 : Int32)) z53) (fun z54 => bd (f_L_some (x2 >>> ((1 : Int32) &&& 31)) (5 : Int32)) (fun z55 => bd (f_X7_loose z51.2 (x2 &&& (1 : Int32)) (z55 - (1 : Int32))) (fun z56 => some ((((z51.1.toInt64 * (100000 : Int64)) + (z52.toInt64 * (10000 : Int64))) + (z54.toInt64 * (10 : Int64))) + z56.toInt64, z51.2)))))))) else if x1 &&& (15 : Int32) = (14 : Int32) then bd (f_L_some (x1 >>> ((4 : Int32) &&& 31)) (10000 : Int32)) (fun z59 => bd (f_L_some x2 (60 : Int32)) (fun z60 => bd (f_X7_year X z59 ((1 : Int32) + z60) ((x2 >>> ((8 : Int32) &&& 31)) &&& (1 : Int32))) (fun z61 => some (z61.toInt64, X)))) else if x1 &&& (16 : Int32) = (0 : Int32) then bd (f_X7_back X) (fun z62 => some (z62.1.toInt64, z62.2)) else bd (f_X7_keep X) (fun z63 => some (z63.1.toInt64, z63.2))))
abbrev rmL_act : Room := ({ frames := 7, cells := 0, slots := 0, locals := 163 } : Room)
set_option maxHeartbeats 4000000 in
set_option maxRecDepth 100000 in
theorem c_L_act (l : Launch) (D : va_G) (cA : ClassId) (ad : (Nat → Nat → Nat)) (X : (Nat → Ob)) (ba1 : Nat) (B1 : (Nat → Int32)) (x1 : Int32) (x2 : Int32) (r : Int64) (X_ : (Nat → Ob)) (h : f_L_act X B1 x1 x2 = some (r, X_)) : ConL l yL_act wsL_act rmL_act D cA [.ref (ad 6 0), .int x1, .int x2, .ref ba1] (wX7 cA ad X ++ (([(ba1, .inl (cA, 46, .inl B1))] : va_W))) r (wX7 cA ad X_ ++ (([(ba1, .inl (cA, 46, .inl B1))] : va_W))) := by
  refine ConL.enter (cc := cL_act) (maxL := 6) (by decide) rfl (Nat.le_of_ble_eq_true rfl) ?_
  intro p e s m args below meth c Q A hx hb hml hown hts hK hP hD hA hend ls hl
  have hS : va_S A s.heap s.heap [] := va_S.rf
  have hl : lv_has ls 6 [(0, .ref (ad 6 0)), (1, .int x1), (2, .int x2), (3, .ref ba1)] := hl
  unfold f_L_act at h
  have lkc90 := hts (.constantLong RL 90 (100)) (List.mem_of_getElem? (i := 1) rfl)
  have lkc123 := hts (.constantLong RL 123 (100000)) (List.mem_of_getElem? (i := 2) rfl)
  have lkc128 := hts (.constantLong RL 128 (10000)) (List.mem_of_getElem? (i := 3) rfl)
  have lkc133 := hts (.constantLong RL 133 (10)) (List.mem_of_getElem? (i := 4) rfl)
  refine lv_iload_n hx hb dL_act_0 rfl (lv_at hl 2 rfl) ?_
  refine lv_aload_n hx hb dL_act_1 rfl (lv_at hl 3 rfl) ?_
  refine lv_iconst (v := (3 : Int32)) hx hb dL_act_2 (by decide) ?_
  refine iald (q0 := 0) (t0 := 0) (j := 3) hx hb hK (P_left (wc := ([(ba1, .inl (cA, 46, .inl B1))] : va_W)) (R := (wX7 cA ad X)) (perm_of (fun c hc => by simp only [hc] <;> omega)) hP) 0 rfl rfl (vp_in_iff.mpr (by decide)) dL_act_3 ?_
  obtain ⟨z1, hz1, h⟩ := bd_some h
  refine cR_S (As := [.int x2, .int (B1 3)]) (rest := []) ⟨hx, hb, hml, hown, hts⟩ (c_L_some l D cA  x2 (B1 3) z1 hz1) (va_cwS 2 hts gL_act_L_some rfl rfl rfl hd_L_some.2 ⟨(Nat.le_of_ble_eq_true rfl), (Nat.le_of_ble_eq_true rfl)⟩) hK hP [] rfl rfl hl.1 rfl (Nat.le_of_ble_eq_true rfl) dL_act_4 ⟨(Nat.le_of_ble_eq_true rfl), (Nat.le_of_ble_eq_true rfl)⟩ ?_
  refine lv_istore (lv' := [(4, .int z1), (0, .ref (ad 6 0)), (1, .int x1), (2, .int x2), (3, .ref ba1)]) hx hb dL_act_7 hl (by decide) rfl (fun ls hl => ?_)
  refine lv_iload_n hx hb dL_act_9 rfl (lv_at hl 3 rfl) ?_
  refine lv_iconst (v := (3 : Int32)) hx hb dL_act_10 (by decide) ?_
  refine lv_ishr hx hb dL_act_11 ?_
  refine lv_aload_n hx hb dL_act_12 rfl (lv_at hl 4 rfl) ?_
  refine lv_iconst (v := (0 : Int32)) hx hb dL_act_13 (by decide) ?_
  refine iald (q0 := 0) (t0 := 0) (j := 0) hx hb hK (P_left (wc := ([(ba1, .inl (cA, 46, .inl B1))] : va_W)) (R := (wX7 cA ad X)) (perm_of (fun c hc => by simp only [hc] <;> omega)) hP) 0 rfl rfl (vp_in_iff.mpr (by decide)) dL_act_14 ?_
  obtain ⟨z2, hz2, h⟩ := bd_some h
  refine cR_S (As := [.int (x2 >>> ((3 : Int32) &&& 31)), .int (B1 0)]) (rest := []) ⟨hx, hb, hml, hown, hts⟩ (c_L_some l D cA  (x2 >>> ((3 : Int32) &&& 31)) (B1 0) z2 hz2) (va_cwS 2 hts gL_act_L_some rfl rfl rfl hd_L_some.2 ⟨(Nat.le_of_ble_eq_true rfl), (Nat.le_of_ble_eq_true rfl)⟩) hK hP [] rfl rfl hl.1 rfl (Nat.le_of_ble_eq_true rfl) dL_act_15 ⟨(Nat.le_of_ble_eq_true rfl), (Nat.le_of_ble_eq_true rfl)⟩ ?_
  refine lv_istore (lv' := [(5, .int z2), (4, .int z1), (0, .ref (ad 6 0)), (1, .int x1), (2, .int x2), (3, .ref ba1)]) hx hb dL_act_18 hl (by decide) rfl (fun ls hl => ?_)
  refine lv_iload_n hx hb dL_act_20 rfl (lv_at hl 3 rfl) ?_
  refine lv_bipush (v := (15 : Int32)) hx hb dL_act_21 (by decide) ?_
  refine lv_iand hx hb dL_act_23 ?_
  by_cases hc3 : x1 &&& (15 : Int32) = (0 : Int32)
  · have h := if_t hc3 h
    refine lv_tableIn (off := 76) (tgt := 100) hx hb dL_act_24 (by rw [hc3]; decide) (by rw [hc3]; decide) (by rw [hc3]; decide) (by decide) ?_
    refine lv_aload_n hx hb dL_act_100 rfl (lv_at hl 2 rfl) ?_
    refine lv_iload hx hb dL_act_101 (lv_at hl 1 rfl) ?_
    obtain ⟨z4, hz4, h⟩ := bd_some h
    refine pW_V (As := [.int z1]) (rest := []) (wr := (([(ba1, .inl (cA, 46, .inl B1))] : va_W))) (wn := (wX7 cA ad z4.2 ++ (([(ba1, .inl (cA, 46, .inl B1))] : va_W)))) ⟨hx, hb, hml, hown, hts⟩ (c_X7_undo l D cA ad X z1 z4.1 z4.2 hz4) (cwV 1 hts gL_act_X7_undo rfl rfl rfl hd_X7_undo ⟨(Nat.le_of_ble_eq_true rfl), (Nat.le_of_ble_eq_true rfl)⟩) (recvK hK (P_left (wc := wX7 cA ad X) (R := (([(ba1, .inl (cA, 46, .inl B1))] : va_W))) (perm_of (fun c hc => by simp only [hc] <;> omega)) hP) 0 7 rfl rfl) hK hP hD hS hA (perm_of (fun c hc => by simp only [hc] <;> omega)) (perm_of (fun c hc => by simp only [hc] <;> omega)) rfl hl.1 rfl (Nat.le_of_ble_eq_true rfl) dL_act_103 ⟨(Nat.le_of_ble_eq_true rfl), (Nat.le_of_ble_eq_true rfl)⟩ (fun H locs hP hD hS => ?_)
    refine lv_i2l hx hb dL_act_106 rfl ?_
    cases h
    exact hend _ _ _ _ hP hD hS dL_act_107
  have h := if_f hc3 h
  by_cases hc5 : x1 &&& (15 : Int32) = (1 : Int32)
  · have h := if_t hc5 h
    refine lv_tableIn (off := 76) (tgt := 100) hx hb dL_act_24 (by rw [hc5]; decide) (by rw [hc5]; decide) (by rw [hc5]; decide) (by decide) ?_
    refine lv_aload_n hx hb dL_act_100 rfl (lv_at hl 2 rfl) ?_
    refine lv_iload hx hb dL_act_101 (lv_at hl 1 rfl) ?_
    obtain ⟨z6, hz6, h⟩ := bd_some h
    refine pW_V (As := [.int z1]) (rest := []) (wr := (([(ba1, .inl (cA, 46, .inl B1))] : va_W))) (wn := (wX7 cA ad z6.2 ++ (([(ba1, .inl (cA, 46, .inl B1))] : va_W)))) ⟨hx, hb, hml, hown, hts⟩ (c_X7_undo l D cA ad X z1 z6.1 z6.2 hz6) (cwV 1 hts gL_act_X7_undo rfl rfl rfl hd_X7_undo ⟨(Nat.le_of_ble_eq_true rfl), (Nat.le_of_ble_eq_true rfl)⟩) (recvK hK (P_left (wc := wX7 cA ad X) (R := (([(ba1, .inl (cA, 46, .inl B1))] : va_W))) (perm_of (fun c hc => by simp only [hc] <;> omega)) hP) 0 7 rfl rfl) hK hP hD hS hA (perm_of (fun c hc => by simp only [hc] <;> omega)) (perm_of (fun c hc => by simp only [hc] <;> omega)) rfl hl.1 rfl (Nat.le_of_ble_eq_true rfl) dL_act_103 ⟨(Nat.le_of_ble_eq_true rfl), (Nat.le_of_ble_eq_true rfl)⟩ (fun H locs hP hD hS => ?_)
    refine lv_i2l hx hb dL_act_106 rfl ?_
    cases h
    exact hend _ _ _ _ hP hD hS dL_act_107
  have h := if_f hc5 h
  by_cases hc7 : x1 &&& (15 : Int32) = (2 : Int32)
  · have h := if_t hc7 h
    refine lv_tableIn (off := 84) (tgt := 108) hx hb dL_act_24 (by rw [hc7]; decide) (by rw [hc7]; decide) (by rw [hc7]; decide) (by decide) ?_
    refine lv_aload_n hx hb dL_act_108 rfl (lv_at hl 2 rfl) ?_
    refine lv_iload hx hb dL_act_109 (lv_at hl 0 rfl) ?_
    refine lv_iload hx hb dL_act_111 (lv_at hl 0 rfl) ?_
    refine lv_iconst (v := (1 : Int32)) hx hb dL_act_113 (by decide) ?_
    refine lv_iadd hx hb dL_act_114 ?_
    refine lv_aload_n hx hb dL_act_115 rfl (lv_at hl 5 rfl) ?_
    refine lv_iconst (v := (0 : Int32)) hx hb dL_act_116 (by decide) ?_
    refine iald (q0 := 0) (t0 := 0) (j := 0) hx hb hK (P_left (wc := ([(ba1, .inl (cA, 46, .inl B1))] : va_W)) (R := (wX7 cA ad X)) (perm_of (fun c hc => by simp only [hc] <;> omega)) hP) 0 rfl rfl (vp_in_iff.mpr (by decide)) dL_act_117 ?_
    obtain ⟨hn8, h⟩ := gd_some h
    refine lv_irem hx hb dL_act_118 (of_decide_eq_true hn8) ?_
    refine lv_iload_n hx hb dL_act_119 rfl (lv_at hl 3 rfl) ?_
    refine lv_iconst (v := (4 : Int32)) hx hb dL_act_120 (by decide) ?_
    refine lv_ishr hx hb dL_act_121 ?_
    refine lv_iload_n hx hb dL_act_122 rfl (lv_at hl 3 rfl) ?_
    refine lv_bipush (v := (12 : Int32)) hx hb dL_act_123 (by decide) ?_
    refine lv_ishr hx hb dL_act_125 ?_
    refine lv_iand hx hb dL_act_126 ?_
    refine lv_sipush (v := (255 : Int32)) hx hb dL_act_127 (by decide) ?_
    refine lv_iand hx hb dL_act_130 ?_
    refine lv_iload_n hx hb dL_act_131 rfl (lv_at hl 4 rfl) ?_
    refine lv_bipush (v := (6 : Int32)) hx hb dL_act_132 (by decide) ?_
    refine lv_ishr hx hb dL_act_134 ?_
    refine lv_bipush (v := (100 : Int32)) hx hb dL_act_135 (by decide) ?_
    obtain ⟨z9, hz9, h⟩ := bd_some h
    refine cR_S (As := [.int (x2 >>> ((6 : Int32) &&& 31)), .int (100 : Int32)]) (rest := [.int (((x1 >>> ((4 : Int32) &&& 31)) &&& (x1 >>> ((12 : Int32) &&& 31))) &&& (255 : Int32)), .int ((z2 + (1 : Int32)) - (z2 + (1 : Int32)) / (B1 0) * (B1 0)), .int z2, .ref (ad 6 0)]) ⟨hx, hb, hml, hown, hts⟩ (c_L_some l D cA  (x2 >>> ((6 : Int32) &&& 31)) (100 : Int32) z9 hz9) (va_cwS 2 hts gL_act_L_some rfl rfl rfl hd_L_some.2 ⟨(Nat.le_of_ble_eq_true rfl), (Nat.le_of_ble_eq_true rfl)⟩) hK hP [] rfl rfl hl.1 rfl (Nat.le_of_ble_eq_true rfl) dL_act_137 ⟨(Nat.le_of_ble_eq_true rfl), (Nat.le_of_ble_eq_true rfl)⟩ ?_
    refine lv_iload_n hx hb dL_act_140 rfl (lv_at hl 4 rfl) ?_
    refine lv_bipush (v := (14 : Int32)) hx hb dL_act_141 (by decide) ?_
    refine lv_ishr hx hb dL_act_143 ?_
    refine lv_iconst (v := (3 : Int32)) hx hb dL_act_144 (by decide) ?_
    refine lv_iand hx hb dL_act_145 ?_
    obtain ⟨z10, hz10, h⟩ := bd_some h
    refine pW_V (As := [.int z2, .int ((z2 + (1 : Int32)) - (z2 + (1 : Int32)) / (B1 0) * (B1 0)), .int (((x1 >>> ((4 : Int32) &&& 31)) &&& (x1 >>> ((12 : Int32) &&& 31))) &&& (255 : Int32)), .int z9, .int ((x2 >>> ((14 : Int32) &&& 31)) &&& (3 : Int32))]) (rest := []) (wr := (([(ba1, .inl (cA, 46, .inl B1))] : va_W))) (wn := (wX7 cA ad z10.2 ++ (([(ba1, .inl (cA, 46, .inl B1))] : va_W)))) ⟨hx, hb, hml, hown, hts⟩ (c_X7_tie l D cA ad X z2 ((z2 + (1 : Int32)) - (z2 + (1 : Int32)) / (B1 0) * (B1 0)) (((x1 >>> ((4 : Int32) &&& 31)) &&& (x1 >>> ((12 : Int32) &&& 31))) &&& (255 : Int32)) z9 ((x2 >>> ((14 : Int32) &&& 31)) &&& (3 : Int32)) z10.1 z10.2 hz10) (cwV 5 hts gL_act_X7_tie rfl rfl rfl hd_X7_tie ⟨(Nat.le_of_ble_eq_true rfl), (Nat.le_of_ble_eq_true rfl)⟩) (recvK hK (P_left (wc := wX7 cA ad X) (R := (([(ba1, .inl (cA, 46, .inl B1))] : va_W))) (perm_of (fun c hc => by simp only [hc] <;> omega)) hP) 0 7 rfl rfl) hK hP hD hS hA (perm_of (fun c hc => by simp only [hc] <;> omega)) (perm_of (fun c hc => by simp only [hc] <;> omega)) rfl hl.1 rfl (Nat.le_of_ble_eq_true rfl) dL_act_146 ⟨(Nat.le_of_ble_eq_true rfl), (Nat.le_of_ble_eq_true rfl)⟩ (fun H locs hP hD hS => ?_)
    refine lv_i2l hx hb dL_act_149 rfl ?_
    cases h
    exact hend _ _ _ _ hP hD hS dL_act_150
  have h := if_f hc7 h
  by_cases hc11 : x1 &&& (15 : Int32) = (3 : Int32)
  · have h := if_t hc11 h
    refine lv_tableIn (off := 84) (tgt := 108) hx hb dL_act_24 (by rw [hc11]; decide) (by rw [hc11]; decide) (by rw [hc11]; decide) (by decide) ?_
    refine lv_aload_n hx hb dL_act_108 rfl (lv_at hl 2 rfl) ?_
    refine lv_iload hx hb dL_act_109 (lv_at hl 0 rfl) ?_
    refine lv_iload hx hb dL_act_111 (lv_at hl 0 rfl) ?_
    refine lv_iconst (v := (1 : Int32)) hx hb dL_act_113 (by decide) ?_
    refine lv_iadd hx hb dL_act_114 ?_
    refine lv_aload_n hx hb dL_act_115 rfl (lv_at hl 5 rfl) ?_
    refine lv_iconst (v := (0 : Int32)) hx hb dL_act_116 (by decide) ?_
    refine iald (q0 := 0) (t0 := 0) (j := 0) hx hb hK (P_left (wc := ([(ba1, .inl (cA, 46, .inl B1))] : va_W)) (R := (wX7 cA ad X)) (perm_of (fun c hc => by simp only [hc] <;> omega)) hP) 0 rfl rfl (vp_in_iff.mpr (by decide)) dL_act_117 ?_
    obtain ⟨hn12, h⟩ := gd_some h
    refine lv_irem hx hb dL_act_118 (of_decide_eq_true hn12) ?_
    refine lv_iload_n hx hb dL_act_119 rfl (lv_at hl 3 rfl) ?_
    refine lv_iconst (v := (4 : Int32)) hx hb dL_act_120 (by decide) ?_
    refine lv_ishr hx hb dL_act_121 ?_
    refine lv_iload_n hx hb dL_act_122 rfl (lv_at hl 3 rfl) ?_
    refine lv_bipush (v := (12 : Int32)) hx hb dL_act_123 (by decide) ?_
    refine lv_ishr hx hb dL_act_125 ?_
    refine lv_iand hx hb dL_act_126 ?_
    refine lv_sipush (v := (255 : Int32)) hx hb dL_act_127 (by decide) ?_
    refine lv_iand hx hb dL_act_130 ?_
    refine lv_iload_n hx hb dL_act_131 rfl (lv_at hl 4 rfl) ?_
    refine lv_bipush (v := (6 : Int32)) hx hb dL_act_132 (by decide) ?_
    refine lv_ishr hx hb dL_act_134 ?_
    refine lv_bipush (v := (100 : Int32)) hx hb dL_act_135 (by decide) ?_
    obtain ⟨z13, hz13, h⟩ := bd_some h
    refine cR_S (As := [.int (x2 >>> ((6 : Int32) &&& 31)), .int (100 : Int32)]) (rest := [.int (((x1 >>> ((4 : Int32) &&& 31)) &&& (x1 >>> ((12 : Int32) &&& 31))) &&& (255 : Int32)), .int ((z2 + (1 : Int32)) - (z2 + (1 : Int32)) / (B1 0) * (B1 0)), .int z2, .ref (ad 6 0)]) ⟨hx, hb, hml, hown, hts⟩ (c_L_some l D cA  (x2 >>> ((6 : Int32) &&& 31)) (100 : Int32) z13 hz13) (va_cwS 2 hts gL_act_L_some rfl rfl rfl hd_L_some.2 ⟨(Nat.le_of_ble_eq_true rfl), (Nat.le_of_ble_eq_true rfl)⟩) hK hP [] rfl rfl hl.1 rfl (Nat.le_of_ble_eq_true rfl) dL_act_137 ⟨(Nat.le_of_ble_eq_true rfl), (Nat.le_of_ble_eq_true rfl)⟩ ?_
    refine lv_iload_n hx hb dL_act_140 rfl (lv_at hl 4 rfl) ?_
    refine lv_bipush (v := (14 : Int32)) hx hb dL_act_141 (by decide) ?_
    refine lv_ishr hx hb dL_act_143 ?_
    refine lv_iconst (v := (3 : Int32)) hx hb dL_act_144 (by decide) ?_
    refine lv_iand hx hb dL_act_145 ?_
    obtain ⟨z14, hz14, h⟩ := bd_some h
    refine pW_V (As := [.int z2, .int ((z2 + (1 : Int32)) - (z2 + (1 : Int32)) / (B1 0) * (B1 0)), .int (((x1 >>> ((4 : Int32) &&& 31)) &&& (x1 >>> ((12 : Int32) &&& 31))) &&& (255 : Int32)), .int z13, .int ((x2 >>> ((14 : Int32) &&& 31)) &&& (3 : Int32))]) (rest := []) (wr := (([(ba1, .inl (cA, 46, .inl B1))] : va_W))) (wn := (wX7 cA ad z14.2 ++ (([(ba1, .inl (cA, 46, .inl B1))] : va_W)))) ⟨hx, hb, hml, hown, hts⟩ (c_X7_tie l D cA ad X z2 ((z2 + (1 : Int32)) - (z2 + (1 : Int32)) / (B1 0) * (B1 0)) (((x1 >>> ((4 : Int32) &&& 31)) &&& (x1 >>> ((12 : Int32) &&& 31))) &&& (255 : Int32)) z13 ((x2 >>> ((14 : Int32) &&& 31)) &&& (3 : Int32)) z14.1 z14.2 hz14) (cwV 5 hts gL_act_X7_tie rfl rfl rfl hd_X7_tie ⟨(Nat.le_of_ble_eq_true rfl), (Nat.le_of_ble_eq_true rfl)⟩) (recvK hK (P_left (wc := wX7 cA ad X) (R := (([(ba1, .inl (cA, 46, .inl B1))] : va_W))) (perm_of (fun c hc => by simp only [hc] <;> omega)) hP) 0 7 rfl rfl) hK hP hD hS hA (perm_of (fun c hc => by simp only [hc] <;> omega)) (perm_of (fun c hc => by simp only [hc] <;> omega)) rfl hl.1 rfl (Nat.le_of_ble_eq_true rfl) dL_act_146 ⟨(Nat.le_of_ble_eq_true rfl), (Nat.le_of_ble_eq_true rfl)⟩ (fun H locs hP hD hS => ?_)
    refine lv_i2l hx hb dL_act_149 rfl ?_
    cases h
    exact hend _ _ _ _ hP hD hS dL_act_150
  have h := if_f hc11 h
  by_cases hc15 : x1 &&& (15 : Int32) = (4 : Int32)
  · have h := if_t hc15 h
    refine lv_tableIn (off := 127) (tgt := 151) hx hb dL_act_24 (by rw [hc15]; decide) (by rw [hc15]; decide) (by rw [hc15]; decide) (by decide) ?_
    refine lv_iload_n hx hb dL_act_151 rfl (lv_at hl 3 rfl) ?_
    refine lv_bipush (v := (16 : Int32)) hx hb dL_act_152 (by decide) ?_
    refine lv_iand hx hb dL_act_154 ?_
    refine lv_if_ne (tgt := 168) hx hb dL_act_155 (by decide) (fun hc => ?_) (fun hc => ?_)
    · have h := if_f hc h
      refine lv_aload_n hx hb dL_act_168 rfl (lv_at hl 2 rfl) ?_
      refine lv_iload hx hb dL_act_169 (lv_at hl 1 rfl) ?_
      obtain ⟨z16, hz16, h⟩ := bd_some h
      refine pW_V (As := [.int z1]) (rest := []) (wr := (([(ba1, .inl (cA, 46, .inl B1))] : va_W))) (wn := (wX7 cA ad z16.2 ++ (([(ba1, .inl (cA, 46, .inl B1))] : va_W)))) ⟨hx, hb, hml, hown, hts⟩ (c_X7_cut l D cA ad X z1 z16.1 z16.2 hz16) (cwV 1 hts gL_act_X7_cut rfl rfl rfl hd_X7_cut ⟨(Nat.le_of_ble_eq_true rfl), (Nat.le_of_ble_eq_true rfl)⟩) (recvK hK (P_left (wc := wX7 cA ad X) (R := (([(ba1, .inl (cA, 46, .inl B1))] : va_W))) (perm_of (fun c hc => by simp only [hc] <;> omega)) hP) 0 7 rfl rfl) hK hP hD hS hA (perm_of (fun c hc => by simp only [hc] <;> omega)) (perm_of (fun c hc => by simp only [hc] <;> omega)) rfl hl.1 rfl (Nat.le_of_ble_eq_true rfl) dL_act_171 ⟨(Nat.le_of_ble_eq_true rfl), (Nat.le_of_ble_eq_true rfl)⟩ (fun H locs hP hD hS => ?_)
      refine lv_i2l hx hb dL_act_174 rfl ?_
      cases h
      exact hend _ _ _ _ hP hD hS dL_act_175
    · have h := if_t hc h
      refine lv_aload_n hx hb dL_act_158 rfl (lv_at hl 2 rfl) ?_
      refine lv_iload hx hb dL_act_159 (lv_at hl 1 rfl) ?_
      obtain ⟨z17, hz17, h⟩ := bd_some h
      refine pW_V (As := [.int z1]) (rest := []) (wr := (([(ba1, .inl (cA, 46, .inl B1))] : va_W))) (wn := (wX7 cA ad z17.2 ++ (([(ba1, .inl (cA, 46, .inl B1))] : va_W)))) ⟨hx, hb, hml, hown, hts⟩ (c_X7_pull l D cA ad X z1 z17.1 z17.2 hz17) (cwV 1 hts gL_act_X7_pull rfl rfl rfl hd_X7_pull ⟨(Nat.le_of_ble_eq_true rfl), (Nat.le_of_ble_eq_true rfl)⟩) (recvK hK (P_left (wc := wX7 cA ad X) (R := (([(ba1, .inl (cA, 46, .inl B1))] : va_W))) (perm_of (fun c hc => by simp only [hc] <;> omega)) hP) 0 7 rfl rfl) hK hP hD hS hA (perm_of (fun c hc => by simp only [hc] <;> omega)) (perm_of (fun c hc => by simp only [hc] <;> omega)) rfl hl.1 rfl (Nat.le_of_ble_eq_true rfl) dL_act_161 ⟨(Nat.le_of_ble_eq_true rfl), (Nat.le_of_ble_eq_true rfl)⟩ (fun H locs hP hD hS => ?_)
      refine lv_i2l hx hb dL_act_164 rfl ?_
      refine lv_goto (tgt := 175) hx hb dL_act_165 (by decide) ?_
      cases h
      exact hend _ _ _ _ hP hD hS dL_act_175
  have h := if_f hc15 h
  by_cases hc18 : x1 &&& (15 : Int32) = (5 : Int32)
  · have h := if_t hc18 h
    refine lv_tableIn (off := 152) (tgt := 176) hx hb dL_act_24 (by rw [hc18]; decide) (by rw [hc18]; decide) (by rw [hc18]; decide) (by decide) ?_
    refine lv_aload_n hx hb dL_act_176 rfl (lv_at hl 2 rfl) ?_
    refine lv_iconst (v := (1 : Int32)) hx hb dL_act_177 (by decide) ?_
    refine lv_iload_n hx hb dL_act_178 rfl (lv_at hl 3 rfl) ?_
    refine lv_iconst (v := (4 : Int32)) hx hb dL_act_179 (by decide) ?_
    refine lv_ishr hx hb dL_act_180 ?_
    refine lv_bipush (v := (20 : Int32)) hx hb dL_act_181 (by decide) ?_
    obtain ⟨z19, hz19, h⟩ := bd_some h
    refine cR_S (As := [.int (x1 >>> ((4 : Int32) &&& 31)), .int (20 : Int32)]) (rest := [.int (1 : Int32), .ref (ad 6 0)]) ⟨hx, hb, hml, hown, hts⟩ (c_L_some l D cA  (x1 >>> ((4 : Int32) &&& 31)) (20 : Int32) z19 hz19) (va_cwS 2 hts gL_act_L_some rfl rfl rfl hd_L_some.2 ⟨(Nat.le_of_ble_eq_true rfl), (Nat.le_of_ble_eq_true rfl)⟩) hK hP [] rfl rfl hl.1 rfl (Nat.le_of_ble_eq_true rfl) dL_act_183 ⟨(Nat.le_of_ble_eq_true rfl), (Nat.le_of_ble_eq_true rfl)⟩ ?_
    refine lv_iadd hx hb dL_act_186 ?_
    obtain ⟨z20, hz20, h⟩ := bd_some h
    refine pW_V (As := [.int ((1 : Int32) + z19)]) (rest := []) (wr := (([(ba1, .inl (cA, 46, .inl B1))] : va_W))) (wn := (wX7 cA ad z20.2 ++ (([(ba1, .inl (cA, 46, .inl B1))] : va_W)))) ⟨hx, hb, hml, hown, hts⟩ (c_X7_days l D cA ad X ((1 : Int32) + z19) z20.1 z20.2 hz20) (cwV 1 hts gL_act_X7_days rfl rfl rfl hd_X7_days ⟨(Nat.le_of_ble_eq_true rfl), (Nat.le_of_ble_eq_true rfl)⟩) (recvK hK (P_left (wc := wX7 cA ad X) (R := (([(ba1, .inl (cA, 46, .inl B1))] : va_W))) (perm_of (fun c hc => by simp only [hc] <;> omega)) hP) 0 7 rfl rfl) hK hP hD hS hA (perm_of (fun c hc => by simp only [hc] <;> omega)) (perm_of (fun c hc => by simp only [hc] <;> omega)) rfl hl.1 rfl (Nat.le_of_ble_eq_true rfl) dL_act_187 ⟨(Nat.le_of_ble_eq_true rfl), (Nat.le_of_ble_eq_true rfl)⟩ (fun H locs hP hD hS => ?_)
    refine lv_i2l hx hb dL_act_190 rfl ?_
    cases h
    exact hend _ _ _ _ hP hD hS dL_act_191
  have h := if_f hc18 h
  by_cases hc21 : x1 &&& (15 : Int32) = (6 : Int32)
  · have h := if_t hc21 h
    refine lv_tableIn (off := 168) (tgt := 192) hx hb dL_act_24 (by rw [hc21]; decide) (by rw [hc21]; decide) (by rw [hc21]; decide) (by decide) ?_
    refine lv_aload_n hx hb dL_act_192 rfl (lv_at hl 2 rfl) ?_
    obtain ⟨z22, hz22, h⟩ := bd_some h
    refine pW_V (As := []) (rest := []) (wr := (([(ba1, .inl (cA, 46, .inl B1))] : va_W))) (wn := (wX7 cA ad z22.2 ++ (([(ba1, .inl (cA, 46, .inl B1))] : va_W)))) ⟨hx, hb, hml, hown, hts⟩ (c_X7_takeBack l D cA ad X  z22.1 z22.2 hz22) (cwV 0 hts gL_act_X7_takeBack rfl rfl rfl hd_X7_takeBack ⟨(Nat.le_of_ble_eq_true rfl), (Nat.le_of_ble_eq_true rfl)⟩) (recvK hK (P_left (wc := wX7 cA ad X) (R := (([(ba1, .inl (cA, 46, .inl B1))] : va_W))) (perm_of (fun c hc => by simp only [hc] <;> omega)) hP) 0 7 rfl rfl) hK hP hD hS hA (perm_of (fun c hc => by simp only [hc] <;> omega)) (perm_of (fun c hc => by simp only [hc] <;> omega)) rfl hl.1 rfl (Nat.le_of_ble_eq_true rfl) dL_act_193 ⟨(Nat.le_of_ble_eq_true rfl), (Nat.le_of_ble_eq_true rfl)⟩ (fun H locs hP hD hS => ?_)
    refine lv_i2l hx hb dL_act_196 rfl ?_
    cases h
    exact hend _ _ _ _ hP hD hS dL_act_197
  have h := if_f hc21 h
  by_cases hc23 : x1 &&& (15 : Int32) = (7 : Int32)
  · have h := if_t hc23 h
    refine lv_tableIn (off := 174) (tgt := 198) hx hb dL_act_24 (by rw [hc23]; decide) (by rw [hc23]; decide) (by rw [hc23]; decide) (by decide) ?_
    refine lv_aload_n hx hb dL_act_198 rfl (lv_at hl 2 rfl) ?_
    refine lv_iload hx hb dL_act_199 (lv_at hl 1 rfl) ?_
    obtain ⟨z24, hz24, h⟩ := bd_some h
    refine pR_V (As := [.int z1]) (rest := []) (wr := (([(ba1, .inl (cA, 46, .inl B1))] : va_W))) ⟨hx, hb, hml, hown, hts⟩ (c_X7_loosen l D cA ad X z1 z24 hz24) (cwV 1 hts gL_act_X7_loosen rfl rfl rfl hd_X7_loosen ⟨(Nat.le_of_ble_eq_true rfl), (Nat.le_of_ble_eq_true rfl)⟩) (recvK hK (P_left (wc := wX7 cA ad X) (R := (([(ba1, .inl (cA, 46, .inl B1))] : va_W))) (perm_of (fun c hc => by simp only [hc] <;> omega)) hP) 0 7 rfl rfl) hK hP (perm_of (fun c hc => by simp only [hc] <;> omega)) rfl hl.1 rfl (Nat.le_of_ble_eq_true rfl) dL_act_201 ⟨(Nat.le_of_ble_eq_true rfl), (Nat.le_of_ble_eq_true rfl)⟩ ?_
    refine lv_i2l hx hb dL_act_204 rfl ?_
    refine lv_ldc2 hx hb hown lkc90 dL_act_205 ?_
    refine lv_lmul hx hb dL_act_208 ?_
    refine lv_aload_n hx hb dL_act_209 rfl (lv_at hl 2 rfl) ?_
    refine lv_iload_n hx hb dL_act_210 rfl (lv_at hl 3 rfl) ?_
    refine lv_iconst (v := (4 : Int32)) hx hb dL_act_211 (by decide) ?_
    refine lv_ishr hx hb dL_act_212 ?_
    refine lv_iconst (v := (5 : Int32)) hx hb dL_act_213 (by decide) ?_
    obtain ⟨z25, hz25, h⟩ := bd_some h
    refine cR_S (As := [.int (x1 >>> ((4 : Int32) &&& 31)), .int (5 : Int32)]) (rest := [.ref (ad 6 0), .long (z24.toInt64 * (100 : Int64))]) ⟨hx, hb, hml, hown, hts⟩ (c_L_some l D cA  (x1 >>> ((4 : Int32) &&& 31)) (5 : Int32) z25 hz25) (va_cwS 2 hts gL_act_L_some rfl rfl rfl hd_L_some.2 ⟨(Nat.le_of_ble_eq_true rfl), (Nat.le_of_ble_eq_true rfl)⟩) hK hP [] rfl rfl hl.1 rfl (Nat.le_of_ble_eq_true rfl) dL_act_214 ⟨(Nat.le_of_ble_eq_true rfl), (Nat.le_of_ble_eq_true rfl)⟩ ?_
    refine lv_iconst (v := (1 : Int32)) hx hb dL_act_217 (by decide) ?_
    refine lv_isub hx hb dL_act_218 ?_
    obtain ⟨z26, hz26, h⟩ := bd_some h
    refine pR_V (As := [.int (z25 - (1 : Int32))]) (rest := [.long (z24.toInt64 * (100 : Int64))]) (wr := (([(ba1, .inl (cA, 46, .inl B1))] : va_W))) ⟨hx, hb, hml, hown, hts⟩ (c_X7_pay l D cA ad X (z25 - (1 : Int32)) z26 hz26) (cwV 1 hts gL_act_X7_pay rfl rfl rfl hd_X7_pay ⟨(Nat.le_of_ble_eq_true rfl), (Nat.le_of_ble_eq_true rfl)⟩) (recvK hK (P_left (wc := wX7 cA ad X) (R := (([(ba1, .inl (cA, 46, .inl B1))] : va_W))) (perm_of (fun c hc => by simp only [hc] <;> omega)) hP) 0 7 rfl rfl) hK hP (perm_of (fun c hc => by simp only [hc] <;> omega)) rfl hl.1 rfl (Nat.le_of_ble_eq_true rfl) dL_act_219 ⟨(Nat.le_of_ble_eq_true rfl), (Nat.le_of_ble_eq_true rfl)⟩ ?_
    refine lv_i2l hx hb dL_act_222 rfl ?_
    refine lv_ladd hx hb dL_act_223 ?_
    cases h
    exact hend _ _ _ _ hP hD hS dL_act_224
  have h := if_f hc23 h
  by_cases hc27 : x1 &&& (15 : Int32) = (8 : Int32)
  · have h := if_t hc27 h
    refine lv_tableIn (off := 201) (tgt := 225) hx hb dL_act_24 (by rw [hc27]; decide) (by rw [hc27]; decide) (by rw [hc27]; decide) (by decide) ?_
    refine lv_aload_n hx hb dL_act_225 rfl (lv_at hl 2 rfl) ?_
    obtain ⟨z28, hz28, h⟩ := bd_some h
    refine pR_V (As := []) (rest := []) (wr := (([(ba1, .inl (cA, 46, .inl B1))] : va_W))) ⟨hx, hb, hml, hown, hts⟩ (c_X7_forEver l D cA ad X  z28 hz28) (cwV 0 hts gL_act_X7_forEver rfl rfl rfl hd_X7_forEver ⟨(Nat.le_of_ble_eq_true rfl), (Nat.le_of_ble_eq_true rfl)⟩) (recvK hK (P_left (wc := wX7 cA ad X) (R := (([(ba1, .inl (cA, 46, .inl B1))] : va_W))) (perm_of (fun c hc => by simp only [hc] <;> omega)) hP) 0 7 rfl rfl) hK hP (perm_of (fun c hc => by simp only [hc] <;> omega)) rfl hl.1 rfl (Nat.le_of_ble_eq_true rfl) dL_act_226 ⟨(Nat.le_of_ble_eq_true rfl), (Nat.le_of_ble_eq_true rfl)⟩ ?_
    refine lv_i2l hx hb dL_act_229 rfl ?_
    refine lv_ldc2 hx hb hown lkc90 dL_act_230 ?_
    refine lv_lmul hx hb dL_act_233 ?_
    refine lv_aload_n hx hb dL_act_234 rfl (lv_at hl 2 rfl) ?_
    refine lv_iload hx hb dL_act_235 (lv_at hl 0 rfl) ?_
    obtain ⟨z29, hz29, h⟩ := bd_some h
    refine pR_V (As := [.int z2]) (rest := [.long (z28.toInt64 * (100 : Int64))]) (wr := (([(ba1, .inl (cA, 46, .inl B1))] : va_W))) ⟨hx, hb, hml, hown, hts⟩ (c_X7_frees l D cA ad X z2 z29 hz29) (cwV 1 hts gL_act_X7_frees rfl rfl rfl hd_X7_frees ⟨(Nat.le_of_ble_eq_true rfl), (Nat.le_of_ble_eq_true rfl)⟩) (recvK hK (P_left (wc := wX7 cA ad X) (R := (([(ba1, .inl (cA, 46, .inl B1))] : va_W))) (perm_of (fun c hc => by simp only [hc] <;> omega)) hP) 0 7 rfl rfl) hK hP (perm_of (fun c hc => by simp only [hc] <;> omega)) rfl hl.1 rfl (Nat.le_of_ble_eq_true rfl) dL_act_237 ⟨(Nat.le_of_ble_eq_true rfl), (Nat.le_of_ble_eq_true rfl)⟩ ?_
    refine lv_i2l hx hb dL_act_240 rfl ?_
    refine lv_ladd hx hb dL_act_241 ?_
    cases h
    exact hend _ _ _ _ hP hD hS dL_act_242
  have h := if_f hc27 h
  by_cases hc30 : x1 &&& (15 : Int32) = (9 : Int32)
  · have h := if_t hc30 h
    refine lv_tableIn (off := 219) (tgt := 243) hx hb dL_act_24 (by rw [hc30]; decide) (by rw [hc30]; decide) (by rw [hc30]; decide) (by decide) ?_
    refine lv_aload_n hx hb dL_act_243 rfl (lv_at hl 2 rfl) ?_
    refine lv_iconst (v := (1 : Int32)) hx hb dL_act_244 (by decide) ?_
    refine lv_iload_n hx hb dL_act_245 rfl (lv_at hl 3 rfl) ?_
    refine lv_iconst (v := (4 : Int32)) hx hb dL_act_246 (by decide) ?_
    refine lv_ishr hx hb dL_act_247 ?_
    refine lv_iconst (v := (3 : Int32)) hx hb dL_act_248 (by decide) ?_
    obtain ⟨z31, hz31, h⟩ := bd_some h
    refine cR_S (As := [.int (x1 >>> ((4 : Int32) &&& 31)), .int (3 : Int32)]) (rest := [.int (1 : Int32), .ref (ad 6 0)]) ⟨hx, hb, hml, hown, hts⟩ (c_L_some l D cA  (x1 >>> ((4 : Int32) &&& 31)) (3 : Int32) z31 hz31) (va_cwS 2 hts gL_act_L_some rfl rfl rfl hd_L_some.2 ⟨(Nat.le_of_ble_eq_true rfl), (Nat.le_of_ble_eq_true rfl)⟩) hK hP [] rfl rfl hl.1 rfl (Nat.le_of_ble_eq_true rfl) dL_act_249 ⟨(Nat.le_of_ble_eq_true rfl), (Nat.le_of_ble_eq_true rfl)⟩ ?_
    refine lv_iadd hx hb dL_act_252 ?_
    refine lv_iload_n hx hb dL_act_253 rfl (lv_at hl 4 rfl) ?_
    refine lv_iconst (v := (1 : Int32)) hx hb dL_act_254 (by decide) ?_
    refine lv_aload_n hx hb dL_act_255 rfl (lv_at hl 5 rfl) ?_
    refine lv_iconst (v := (3 : Int32)) hx hb dL_act_256 (by decide) ?_
    refine iald (q0 := 0) (t0 := 0) (j := 3) hx hb hK (P_left (wc := ([(ba1, .inl (cA, 46, .inl B1))] : va_W)) (R := (wX7 cA ad X)) (perm_of (fun c hc => by simp only [hc] <;> omega)) hP) 0 rfl rfl (vp_in_iff.mpr (by decide)) dL_act_257 ?_
    refine lv_ishl hx hb dL_act_258 ?_
    obtain ⟨z32, hz32, h⟩ := bd_some h
    refine cR_S (As := [.int x2, .int ((1 : Int32) <<< ((B1 3) &&& 31))]) (rest := [.int ((1 : Int32) + z31), .ref (ad 6 0)]) ⟨hx, hb, hml, hown, hts⟩ (c_L_some l D cA  x2 ((1 : Int32) <<< ((B1 3) &&& 31)) z32 hz32) (va_cwS 2 hts gL_act_L_some rfl rfl rfl hd_L_some.2 ⟨(Nat.le_of_ble_eq_true rfl), (Nat.le_of_ble_eq_true rfl)⟩) hK hP [] rfl rfl hl.1 rfl (Nat.le_of_ble_eq_true rfl) dL_act_259 ⟨(Nat.le_of_ble_eq_true rfl), (Nat.le_of_ble_eq_true rfl)⟩ ?_
    refine lv_iload_n hx hb dL_act_262 rfl (lv_at hl 3 rfl) ?_
    refine lv_bipush (v := (8 : Int32)) hx hb dL_act_263 (by decide) ?_
    refine lv_ishr hx hb dL_act_265 ?_
    refine lv_iconst (v := (1 : Int32)) hx hb dL_act_266 (by decide) ?_
    refine lv_iand hx hb dL_act_267 ?_
    obtain ⟨z33, hz33, h⟩ := bd_some h
    refine pR_V (As := [.int ((1 : Int32) + z31), .int z32, .int ((x1 >>> ((8 : Int32) &&& 31)) &&& (1 : Int32))]) (rest := []) (wr := (([(ba1, .inl (cA, 46, .inl B1))] : va_W))) ⟨hx, hb, hml, hown, hts⟩ (c_X7_fresh l D cA ad X ((1 : Int32) + z31) z32 ((x1 >>> ((8 : Int32) &&& 31)) &&& (1 : Int32)) z33 hz33) (cwV 3 hts gL_act_X7_fresh rfl rfl rfl hd_X7_fresh ⟨(Nat.le_of_ble_eq_true rfl), (Nat.le_of_ble_eq_true rfl)⟩) (recvK hK (P_left (wc := wX7 cA ad X) (R := (([(ba1, .inl (cA, 46, .inl B1))] : va_W))) (perm_of (fun c hc => by simp only [hc] <;> omega)) hP) 0 7 rfl rfl) hK hP (perm_of (fun c hc => by simp only [hc] <;> omega)) rfl hl.1 rfl (Nat.le_of_ble_eq_true rfl) dL_act_268 ⟨(Nat.le_of_ble_eq_true rfl), (Nat.le_of_ble_eq_true rfl)⟩ ?_
    refine lv_i2l hx hb dL_act_271 rfl ?_
    cases h
    exact hend _ _ _ _ hP hD hS dL_act_272
  have h := if_f hc30 h
  by_cases hc34 : x1 &&& (15 : Int32) = (10 : Int32)
  · have h := if_t hc34 h
    refine lv_tableIn (off := 249) (tgt := 273) hx hb dL_act_24 (by rw [hc34]; decide) (by rw [hc34]; decide) (by rw [hc34]; decide) (by decide) ?_
    refine lv_aload_n hx hb dL_act_273 rfl (lv_at hl 2 rfl) ?_
    obtain ⟨z35, hz35, h⟩ := bd_some h
    refine pW_V (As := []) (rest := []) (wr := (([(ba1, .inl (cA, 46, .inl B1))] : va_W))) (wn := (wX7 cA ad z35.2 ++ (([(ba1, .inl (cA, 46, .inl B1))] : va_W)))) ⟨hx, hb, hml, hown, hts⟩ (c_X7_orders l D cA ad X  z35.1 z35.2 hz35) (cwV 0 hts gL_act_X7_orders rfl rfl rfl hd_X7_orders ⟨(Nat.le_of_ble_eq_true rfl), (Nat.le_of_ble_eq_true rfl)⟩) (recvK hK (P_left (wc := wX7 cA ad X) (R := (([(ba1, .inl (cA, 46, .inl B1))] : va_W))) (perm_of (fun c hc => by simp only [hc] <;> omega)) hP) 0 7 rfl rfl) hK hP hD hS hA (perm_of (fun c hc => by simp only [hc] <;> omega)) (perm_of (fun c hc => by simp only [hc] <;> omega)) rfl hl.1 rfl (Nat.le_of_ble_eq_true rfl) dL_act_274 ⟨(Nat.le_of_ble_eq_true rfl), (Nat.le_of_ble_eq_true rfl)⟩ (fun H locs hP hD hS => ?_)
    refine lv_i2l hx hb dL_act_277 rfl ?_
    cases h
    exact hend _ _ _ _ hP hD hS dL_act_278
  have h := if_f hc34 h
  by_cases hc36 : x1 &&& (15 : Int32) = (11 : Int32)
  · have h := if_t hc36 h
    refine lv_tableIn (off := 255) (tgt := 279) hx hb dL_act_24 (by rw [hc36]; decide) (by rw [hc36]; decide) (by rw [hc36]; decide) (by decide) ?_
    refine lv_iload_n hx hb dL_act_279 rfl (lv_at hl 3 rfl) ?_
    refine lv_bipush (v := (112 : Int32)) hx hb dL_act_280 (by decide) ?_
    refine lv_iand hx hb dL_act_282 ?_
    refine lv_if_ne (tgt := 294) hx hb dL_act_283 (by decide) (fun hc => ?_) (fun hc => ?_)
    · have h := if_f hc h
      refine lv_aload_n hx hb dL_act_294 rfl (lv_at hl 2 rfl) ?_
      refine lv_iload hx hb dL_act_295 (lv_at hl 1 rfl) ?_
      obtain ⟨z37, hz37, h⟩ := bd_some h
      refine pW_V (As := [.int z1]) (rest := []) (wr := (([(ba1, .inl (cA, 46, .inl B1))] : va_W))) (wn := (wX7 cA ad z37.2 ++ (([(ba1, .inl (cA, 46, .inl B1))] : va_W)))) ⟨hx, hb, hml, hown, hts⟩ (c_X7_tell l D cA ad X z1 z37.1 z37.2 hz37) (cwV 1 hts gL_act_X7_tell rfl rfl rfl hd_X7_tell ⟨(Nat.le_of_ble_eq_true rfl), (Nat.le_of_ble_eq_true rfl)⟩) (recvK hK (P_left (wc := wX7 cA ad X) (R := (([(ba1, .inl (cA, 46, .inl B1))] : va_W))) (perm_of (fun c hc => by simp only [hc] <;> omega)) hP) 0 7 rfl rfl) hK hP hD hS hA (perm_of (fun c hc => by simp only [hc] <;> omega)) (perm_of (fun c hc => by simp only [hc] <;> omega)) rfl hl.1 rfl (Nat.le_of_ble_eq_true rfl) dL_act_297 ⟨(Nat.le_of_ble_eq_true rfl), (Nat.le_of_ble_eq_true rfl)⟩ (fun H locs hP hD hS => ?_)
      refine lv_i2l hx hb dL_act_300 rfl ?_
      refine lv_ldc2 hx hb hown lkc90 dL_act_301 ?_
      refine lv_lmul hx hb dL_act_304 ?_
      refine lv_aload_n hx hb dL_act_305 rfl (lv_at hl 2 rfl) ?_
      obtain ⟨z38, hz38, h⟩ := bd_some h
      refine pR_V (As := []) (rest := [.long (z37.1.toInt64 * (100 : Int64))]) (wr := (([(ba1, .inl (cA, 46, .inl B1))] : va_W))) ⟨hx, hb, hml, hown, hts⟩ (c_X7_judge l D cA ad z37.2  z38 hz38) (cwV 0 hts gL_act_X7_judge rfl rfl rfl hd_X7_judge ⟨(Nat.le_of_ble_eq_true rfl), (Nat.le_of_ble_eq_true rfl)⟩) (recvK hK (P_left (wc := wX7 cA ad z37.2) (R := (([(ba1, .inl (cA, 46, .inl B1))] : va_W))) (perm_of (fun c hc => by simp only [hc] <;> omega)) hP) 0 7 rfl rfl) hK hP (perm_of (fun c hc => by simp only [hc] <;> omega)) rfl hl.1 rfl (Nat.le_of_ble_eq_true rfl) dL_act_306 ⟨(Nat.le_of_ble_eq_true rfl), (Nat.le_of_ble_eq_true rfl)⟩ ?_
      refine lv_i2l hx hb dL_act_309 rfl ?_
      refine lv_ladd hx hb dL_act_310 ?_
      cases h
      exact hend _ _ _ _ hP hD hS dL_act_311
    · have h := if_t hc h
      refine lv_aload_n hx hb dL_act_286 rfl (lv_at hl 2 rfl) ?_
      obtain ⟨z39, hz39, h⟩ := bd_some h
      refine pW_V (As := []) (rest := []) (wr := (([(ba1, .inl (cA, 46, .inl B1))] : va_W))) (wn := (wX7 cA ad z39.2 ++ (([(ba1, .inl (cA, 46, .inl B1))] : va_W)))) ⟨hx, hb, hml, hown, hts⟩ (c_X7_noRow l D cA ad X  z39.1 z39.2 hz39) (cwV 0 hts gL_act_X7_noRow rfl rfl rfl hd_X7_noRow ⟨(Nat.le_of_ble_eq_true rfl), (Nat.le_of_ble_eq_true rfl)⟩) (recvK hK (P_left (wc := wX7 cA ad X) (R := (([(ba1, .inl (cA, 46, .inl B1))] : va_W))) (perm_of (fun c hc => by simp only [hc] <;> omega)) hP) 0 7 rfl rfl) hK hP hD hS hA (perm_of (fun c hc => by simp only [hc] <;> omega)) (perm_of (fun c hc => by simp only [hc] <;> omega)) rfl hl.1 rfl (Nat.le_of_ble_eq_true rfl) dL_act_287 ⟨(Nat.le_of_ble_eq_true rfl), (Nat.le_of_ble_eq_true rfl)⟩ (fun H locs hP hD hS => ?_)
      refine lv_i2l hx hb dL_act_290 rfl ?_
      refine lv_goto (tgt := 311) hx hb dL_act_291 (by decide) ?_
      cases h
      exact hend _ _ _ _ hP hD hS dL_act_311
  have h := if_f hc36 h
  by_cases hc40 : x1 &&& (15 : Int32) = (12 : Int32)
  · have h := if_t hc40 h
    refine lv_tableIn (off := 288) (tgt := 312) hx hb dL_act_24 (by rw [hc40]; decide) (by rw [hc40]; decide) (by rw [hc40]; decide) (by decide) ?_
    refine lv_iload_n hx hb dL_act_312 rfl (lv_at hl 3 rfl) ?_
    refine lv_sipush (v := (240 : Int32)) hx hb dL_act_313 (by decide) ?_
    refine lv_iand hx hb dL_act_316 ?_
    refine lv_if_ne (tgt := 331) hx hb dL_act_317 (by decide) (fun hc => ?_) (fun hc => ?_)
    · have h := if_f hc h
      refine lv_aload_n hx hb dL_act_331 rfl (lv_at hl 2 rfl) ?_
      refine lv_iload_n hx hb dL_act_332 rfl (lv_at hl 4 rfl) ?_
      refine lv_iconst (v := (1 : Int32)) hx hb dL_act_333 (by decide) ?_
      refine lv_iand hx hb dL_act_334 ?_
      refine lv_iload_n hx hb dL_act_335 rfl (lv_at hl 3 rfl) ?_
      refine lv_bipush (v := (8 : Int32)) hx hb dL_act_336 (by decide) ?_
      refine lv_ishr hx hb dL_act_338 ?_
      refine lv_bipush (v := (8 : Int32)) hx hb dL_act_339 (by decide) ?_
      obtain ⟨z41, hz41, h⟩ := bd_some h
      refine cR_S (As := [.int (x1 >>> ((8 : Int32) &&& 31)), .int (8 : Int32)]) (rest := [.int (x2 &&& (1 : Int32)), .ref (ad 6 0)]) ⟨hx, hb, hml, hown, hts⟩ (c_L_some l D cA  (x1 >>> ((8 : Int32) &&& 31)) (8 : Int32) z41 hz41) (va_cwS 2 hts gL_act_L_some rfl rfl rfl hd_L_some.2 ⟨(Nat.le_of_ble_eq_true rfl), (Nat.le_of_ble_eq_true rfl)⟩) hK hP [] rfl rfl hl.1 rfl (Nat.le_of_ble_eq_true rfl) dL_act_341 ⟨(Nat.le_of_ble_eq_true rfl), (Nat.le_of_ble_eq_true rfl)⟩ ?_
      obtain ⟨z42, hz42, h⟩ := bd_some h
      refine pW_V (As := [.int (x2 &&& (1 : Int32)), .int z41]) (rest := []) (wr := (([(ba1, .inl (cA, 46, .inl B1))] : va_W))) (wn := (wX7 cA ad z42.2 ++ (([(ba1, .inl (cA, 46, .inl B1))] : va_W)))) ⟨hx, hb, hml, hown, hts⟩ (c_X7_cross l D cA ad X (x2 &&& (1 : Int32)) z41 z42.1 z42.2 hz42) (cwV 2 hts gL_act_X7_cross rfl rfl rfl hd_X7_cross ⟨(Nat.le_of_ble_eq_true rfl), (Nat.le_of_ble_eq_true rfl)⟩) (recvK hK (P_left (wc := wX7 cA ad X) (R := (([(ba1, .inl (cA, 46, .inl B1))] : va_W))) (perm_of (fun c hc => by simp only [hc] <;> omega)) hP) 0 7 rfl rfl) hK hP hD hS hA (perm_of (fun c hc => by simp only [hc] <;> omega)) (perm_of (fun c hc => by simp only [hc] <;> omega)) rfl hl.1 rfl (Nat.le_of_ble_eq_true rfl) dL_act_344 ⟨(Nat.le_of_ble_eq_true rfl), (Nat.le_of_ble_eq_true rfl)⟩ (fun H locs hP hD hS => ?_)
      refine lv_i2l hx hb dL_act_347 rfl ?_
      refine lv_ldc2 hx hb hown lkc123 dL_act_348 ?_
      refine lv_lmul hx hb dL_act_351 ?_
      refine lv_aload_n hx hb dL_act_352 rfl (lv_at hl 2 rfl) ?_
      obtain ⟨z43, hz43, h⟩ := bd_some h
      refine pR_V (As := []) (rest := [.long (z42.1.toInt64 * (100000 : Int64))]) (wr := (([(ba1, .inl (cA, 46, .inl B1))] : va_W))) ⟨hx, hb, hml, hown, hts⟩ (c_X7_alike l D cA ad z42.2  z43 hz43) (cwV 0 hts gL_act_X7_alike rfl rfl rfl hd_X7_alike ⟨(Nat.le_of_ble_eq_true rfl), (Nat.le_of_ble_eq_true rfl)⟩) (recvK hK (P_left (wc := wX7 cA ad z42.2) (R := (([(ba1, .inl (cA, 46, .inl B1))] : va_W))) (perm_of (fun c hc => by simp only [hc] <;> omega)) hP) 0 7 rfl rfl) hK hP (perm_of (fun c hc => by simp only [hc] <;> omega)) rfl hl.1 rfl (Nat.le_of_ble_eq_true rfl) dL_act_353 ⟨(Nat.le_of_ble_eq_true rfl), (Nat.le_of_ble_eq_true rfl)⟩ ?_
      refine lv_i2l hx hb dL_act_356 rfl ?_
      refine lv_ldc2 hx hb hown lkc128 dL_act_357 ?_
      refine lv_lmul hx hb dL_act_360 ?_
      refine lv_ladd hx hb dL_act_361 ?_
      refine lv_aload_n hx hb dL_act_362 rfl (lv_at hl 2 rfl) ?_
      refine lv_iload_n hx hb dL_act_363 rfl (lv_at hl 4 rfl) ?_
      refine lv_iconst (v := (1 : Int32)) hx hb dL_act_364 (by decide) ?_
      refine lv_iand hx hb dL_act_365 ?_
      refine lv_iload_n hx hb dL_act_366 rfl (lv_at hl 3 rfl) ?_
      refine lv_bipush (v := (11 : Int32)) hx hb dL_act_367 (by decide) ?_
      refine lv_ishr hx hb dL_act_369 ?_
      refine lv_iconst (v := (4 : Int32)) hx hb dL_act_370 (by decide) ?_
      obtain ⟨z44, hz44, h⟩ := bd_some h
      refine cR_S (As := [.int (x1 >>> ((11 : Int32) &&& 31)), .int (4 : Int32)]) (rest := [.int (x2 &&& (1 : Int32)), .ref (ad 6 0), .long ((z42.1.toInt64 * (100000 : Int64)) + (z43.toInt64 * (10000 : Int64)))]) ⟨hx, hb, hml, hown, hts⟩ (c_L_some l D cA  (x1 >>> ((11 : Int32) &&& 31)) (4 : Int32) z44 hz44) (va_cwS 2 hts gL_act_L_some rfl rfl rfl hd_L_some.2 ⟨(Nat.le_of_ble_eq_true rfl), (Nat.le_of_ble_eq_true rfl)⟩) hK hP [] rfl rfl hl.1 rfl (Nat.le_of_ble_eq_true rfl) dL_act_371 ⟨(Nat.le_of_ble_eq_true rfl), (Nat.le_of_ble_eq_true rfl)⟩ ?_
      obtain ⟨z45, hz45, h⟩ := bd_some h
      refine pR_V (As := [.int (x2 &&& (1 : Int32)), .int z44]) (rest := [.long ((z42.1.toInt64 * (100000 : Int64)) + (z43.toInt64 * (10000 : Int64)))]) (wr := (([(ba1, .inl (cA, 46, .inl B1))] : va_W))) ⟨hx, hb, hml, hown, hts⟩ (c_X7_mark l D cA ad z42.2 (x2 &&& (1 : Int32)) z44 z45 hz45) (cwV 2 hts gL_act_X7_mark rfl rfl rfl hd_X7_mark ⟨(Nat.le_of_ble_eq_true rfl), (Nat.le_of_ble_eq_true rfl)⟩) (recvK hK (P_left (wc := wX7 cA ad z42.2) (R := (([(ba1, .inl (cA, 46, .inl B1))] : va_W))) (perm_of (fun c hc => by simp only [hc] <;> omega)) hP) 0 7 rfl rfl) hK hP (perm_of (fun c hc => by simp only [hc] <;> omega)) rfl hl.1 rfl (Nat.le_of_ble_eq_true rfl) dL_act_374 ⟨(Nat.le_of_ble_eq_true rfl), (Nat.le_of_ble_eq_true rfl)⟩ ?_
      refine lv_i2l hx hb dL_act_377 rfl ?_
      refine lv_ldc2 hx hb hown lkc133 dL_act_378 ?_
      refine lv_lmul hx hb dL_act_381 ?_
      refine lv_ladd hx hb dL_act_382 ?_
      refine lv_aload_n hx hb dL_act_383 rfl (lv_at hl 2 rfl) ?_
      refine lv_iload_n hx hb dL_act_384 rfl (lv_at hl 4 rfl) ?_
      refine lv_iconst (v := (1 : Int32)) hx hb dL_act_385 (by decide) ?_
      refine lv_iand hx hb dL_act_386 ?_
      refine lv_iload_n hx hb dL_act_387 rfl (lv_at hl 4 rfl) ?_
      refine lv_iconst (v := (1 : Int32)) hx hb dL_act_388 (by decide) ?_
      refine lv_ishr hx hb dL_act_389 ?_
      refine lv_iconst (v := (5 : Int32)) hx hb dL_act_390 (by decide) ?_
      obtain ⟨z46, hz46, h⟩ := bd_some h
      refine cR_S (As := [.int (x2 >>> ((1 : Int32) &&& 31)), .int (5 : Int32)]) (rest := [.int (x2 &&& (1 : Int32)), .ref (ad 6 0), .long (((z42.1.toInt64 * (100000 : Int64)) + (z43.toInt64 * (10000 : Int64))) + (z45.toInt64 * (10 : Int64)))]) ⟨hx, hb, hml, hown, hts⟩ (c_L_some l D cA  (x2 >>> ((1 : Int32) &&& 31)) (5 : Int32) z46 hz46) (va_cwS 2 hts gL_act_L_some rfl rfl rfl hd_L_some.2 ⟨(Nat.le_of_ble_eq_true rfl), (Nat.le_of_ble_eq_true rfl)⟩) hK hP [] rfl rfl hl.1 rfl (Nat.le_of_ble_eq_true rfl) dL_act_391 ⟨(Nat.le_of_ble_eq_true rfl), (Nat.le_of_ble_eq_true rfl)⟩ ?_
      refine lv_iconst (v := (1 : Int32)) hx hb dL_act_394 (by decide) ?_
      refine lv_isub hx hb dL_act_395 ?_
      obtain ⟨z47, hz47, h⟩ := bd_some h
      refine pR_V (As := [.int (x2 &&& (1 : Int32)), .int (z46 - (1 : Int32))]) (rest := [.long (((z42.1.toInt64 * (100000 : Int64)) + (z43.toInt64 * (10000 : Int64))) + (z45.toInt64 * (10 : Int64)))]) (wr := (([(ba1, .inl (cA, 46, .inl B1))] : va_W))) ⟨hx, hb, hml, hown, hts⟩ (c_X7_loose l D cA ad z42.2 (x2 &&& (1 : Int32)) (z46 - (1 : Int32)) z47 hz47) (cwV 2 hts gL_act_X7_loose rfl rfl rfl hd_X7_loose ⟨(Nat.le_of_ble_eq_true rfl), (Nat.le_of_ble_eq_true rfl)⟩) (recvK hK (P_left (wc := wX7 cA ad z42.2) (R := (([(ba1, .inl (cA, 46, .inl B1))] : va_W))) (perm_of (fun c hc => by simp only [hc] <;> omega)) hP) 0 7 rfl rfl) hK hP (perm_of (fun c hc => by simp only [hc] <;> omega)) rfl hl.1 rfl (Nat.le_of_ble_eq_true rfl) dL_act_396 ⟨(Nat.le_of_ble_eq_true rfl), (Nat.le_of_ble_eq_true rfl)⟩ ?_
      refine lv_i2l hx hb dL_act_399 rfl ?_
      refine lv_ladd hx hb dL_act_400 ?_
      cases h
      exact hend _ _ _ _ hP hD hS dL_act_401
    · have h := if_t hc h
      refine lv_aload_n hx hb dL_act_320 rfl (lv_at hl 2 rfl) ?_
      refine lv_iload_n hx hb dL_act_321 rfl (lv_at hl 4 rfl) ?_
      refine lv_iconst (v := (1 : Int32)) hx hb dL_act_322 (by decide) ?_
      refine lv_iand hx hb dL_act_323 ?_
      obtain ⟨z48, hz48, h⟩ := bd_some h
      refine pW_V (As := [.int (x2 &&& (1 : Int32))]) (rest := []) (wr := (([(ba1, .inl (cA, 46, .inl B1))] : va_W))) (wn := (wX7 cA ad z48.2 ++ (([(ba1, .inl (cA, 46, .inl B1))] : va_W)))) ⟨hx, hb, hml, hown, hts⟩ (c_X7_smooth l D cA ad X (x2 &&& (1 : Int32)) z48.1 z48.2 hz48) (cwV 1 hts gL_act_X7_smooth rfl rfl rfl hd_X7_smooth ⟨(Nat.le_of_ble_eq_true rfl), (Nat.le_of_ble_eq_true rfl)⟩) (recvK hK (P_left (wc := wX7 cA ad X) (R := (([(ba1, .inl (cA, 46, .inl B1))] : va_W))) (perm_of (fun c hc => by simp only [hc] <;> omega)) hP) 0 7 rfl rfl) hK hP hD hS hA (perm_of (fun c hc => by simp only [hc] <;> omega)) (perm_of (fun c hc => by simp only [hc] <;> omega)) rfl hl.1 rfl (Nat.le_of_ble_eq_true rfl) dL_act_324 ⟨(Nat.le_of_ble_eq_true rfl), (Nat.le_of_ble_eq_true rfl)⟩ (fun H locs hP hD hS => ?_)
      refine lv_i2l hx hb dL_act_327 rfl ?_
      refine lv_goto (tgt := 401) hx hb dL_act_328 (by decide) ?_
      cases h
      exact hend _ _ _ _ hP hD hS dL_act_401
  have h := if_f hc40 h
  by_cases hc49 : x1 &&& (15 : Int32) = (13 : Int32)
  · have h := if_t hc49 h
    refine lv_tableIn (off := 288) (tgt := 312) hx hb dL_act_24 (by rw [hc49]; decide) (by rw [hc49]; decide) (by rw [hc49]; decide) (by decide) ?_
    refine lv_iload_n hx hb dL_act_312 rfl (lv_at hl 3 rfl) ?_
    refine lv_sipush (v := (240 : Int32)) hx hb dL_act_313 (by decide) ?_
    refine lv_iand hx hb dL_act_316 ?_
    refine lv_if_ne (tgt := 331) hx hb dL_act_317 (by decide) (fun hc => ?_) (fun hc => ?_)
    · have h := if_f hc h
      refine lv_aload_n hx hb dL_act_331 rfl (lv_at hl 2 rfl) ?_
      refine lv_iload_n hx hb dL_act_332 rfl (lv_at hl 4 rfl) ?_
      refine lv_iconst (v := (1 : Int32)) hx hb dL_act_333 (by decide) ?_
      refine lv_iand hx hb dL_act_334 ?_
      refine lv_iload_n hx hb dL_act_335 rfl (lv_at hl 3 rfl) ?_
      refine lv_bipush (v := (8 : Int32)) hx hb dL_act_336 (by decide) ?_
      refine lv_ishr hx hb dL_act_338 ?_
      refine lv_bipush (v := (8 : Int32)) hx hb dL_act_339 (by decide) ?_
      obtain ⟨z50, hz50, h⟩ := bd_some h
      refine cR_S (As := [.int (x1 >>> ((8 : Int32) &&& 31)), .int (8 : Int32)]) (rest := [.int (x2 &&& (1 : Int32)), .ref (ad 6 0)]) ⟨hx, hb, hml, hown, hts⟩ (c_L_some l D cA  (x1 >>> ((8 : Int32) &&& 31)) (8 : Int32) z50 hz50) (va_cwS 2 hts gL_act_L_some rfl rfl rfl hd_L_some.2 ⟨(Nat.le_of_ble_eq_true rfl), (Nat.le_of_ble_eq_true rfl)⟩) hK hP [] rfl rfl hl.1 rfl (Nat.le_of_ble_eq_true rfl) dL_act_341 ⟨(Nat.le_of_ble_eq_true rfl), (Nat.le_of_ble_eq_true rfl)⟩ ?_
      obtain ⟨z51, hz51, h⟩ := bd_some h
      refine pW_V (As := [.int (x2 &&& (1 : Int32)), .int z50]) (rest := []) (wr := (([(ba1, .inl (cA, 46, .inl B1))] : va_W))) (wn := (wX7 cA ad z51.2 ++ (([(ba1, .inl (cA, 46, .inl B1))] : va_W)))) ⟨hx, hb, hml, hown, hts⟩ (c_X7_cross l D cA ad X (x2 &&& (1 : Int32)) z50 z51.1 z51.2 hz51) (cwV 2 hts gL_act_X7_cross rfl rfl rfl hd_X7_cross ⟨(Nat.le_of_ble_eq_true rfl), (Nat.le_of_ble_eq_true rfl)⟩) (recvK hK (P_left (wc := wX7 cA ad X) (R := (([(ba1, .inl (cA, 46, .inl B1))] : va_W))) (perm_of (fun c hc => by simp only [hc] <;> omega)) hP) 0 7 rfl rfl) hK hP hD hS hA (perm_of (fun c hc => by simp only [hc] <;> omega)) (perm_of (fun c hc => by simp only [hc] <;> omega)) rfl hl.1 rfl (Nat.le_of_ble_eq_true rfl) dL_act_344 ⟨(Nat.le_of_ble_eq_true rfl), (Nat.le_of_ble_eq_true rfl)⟩ (fun H locs hP hD hS => ?_)
      refine lv_i2l hx hb dL_act_347 rfl ?_
      refine lv_ldc2 hx hb hown lkc123 dL_act_348 ?_
      refine lv_lmul hx hb dL_act_351 ?_
      refine lv_aload_n hx hb dL_act_352 rfl (lv_at hl 2 rfl) ?_
      obtain ⟨z52, hz52, h⟩ := bd_some h
      refine pR_V (As := []) (rest := [.long (z51.1.toInt64 * (100000 : Int64))]) (wr := (([(ba1, .inl (cA, 46, .inl B1))] : va_W))) ⟨hx, hb, hml, hown, hts⟩ (c_X7_alike l D cA ad z51.2  z52 hz52) (cwV 0 hts gL_act_X7_alike rfl rfl rfl hd_X7_alike ⟨(Nat.le_of_ble_eq_true rfl), (Nat.le_of_ble_eq_true rfl)⟩) (recvK hK (P_left (wc := wX7 cA ad z51.2) (R := (([(ba1, .inl (cA, 46, .inl B1))] : va_W))) (perm_of (fun c hc => by simp only [hc] <;> omega)) hP) 0 7 rfl rfl) hK hP (perm_of (fun c hc => by simp only [hc] <;> omega)) rfl hl.1 rfl (Nat.le_of_ble_eq_true rfl) dL_act_353 ⟨(Nat.le_of_ble_eq_true rfl), (Nat.le_of_ble_eq_true rfl)⟩ ?_
      refine lv_i2l hx hb dL_act_356 rfl ?_
      refine lv_ldc2 hx hb hown lkc128 dL_act_357 ?_
      refine lv_lmul hx hb dL_act_360 ?_
      refine lv_ladd hx hb dL_act_361 ?_
      refine lv_aload_n hx hb dL_act_362 rfl (lv_at hl 2 rfl) ?_
      refine lv_iload_n hx hb dL_act_363 rfl (lv_at hl 4 rfl) ?_
      refine lv_iconst (v := (1 : Int32)) hx hb dL_act_364 (by decide) ?_
      refine lv_iand hx hb dL_act_365 ?_
      refine lv_iload_n hx hb dL_act_366 rfl (lv_at hl 3 rfl) ?_
      refine lv_bipush (v := (11 : Int32)) hx hb dL_act_367 (by decide) ?_
      refine lv_ishr hx hb dL_act_369 ?_
      refine lv_iconst (v := (4 : Int32)) hx hb dL_act_370 (by decide) ?_
      obtain ⟨z53, hz53, h⟩ := bd_some h
      refine cR_S (As := [.int (x1 >>> ((11 : Int32) &&& 31)), .int (4 : Int32)]) (rest := [.int (x2 &&& (1 : Int32)), .ref (ad 6 0), .long ((z51.1.toInt64 * (100000 : Int64)) + (z52.toInt64 * (10000 : Int64)))]) ⟨hx, hb, hml, hown, hts⟩ (c_L_some l D cA  (x1 >>> ((11 : Int32) &&& 31)) (4 : Int32) z53 hz53) (va_cwS 2 hts gL_act_L_some rfl rfl rfl hd_L_some.2 ⟨(Nat.le_of_ble_eq_true rfl), (Nat.le_of_ble_eq_true rfl)⟩) hK hP [] rfl rfl hl.1 rfl (Nat.le_of_ble_eq_true rfl) dL_act_371 ⟨(Nat.le_of_ble_eq_true rfl), (Nat.le_of_ble_eq_true rfl)⟩ ?_
      obtain ⟨z54, hz54, h⟩ := bd_some h
      refine pR_V (As := [.int (x2 &&& (1 : Int32)), .int z53]) (rest := [.long ((z51.1.toInt64 * (100000 : Int64)) + (z52.toInt64 * (10000 : Int64)))]) (wr := (([(ba1, .inl (cA, 46, .inl B1))] : va_W))) ⟨hx, hb, hml, hown, hts⟩ (c_X7_mark l D cA ad z51.2 (x2 &&& (1 : Int32)) z53 z54 hz54) (cwV 2 hts gL_act_X7_mark rfl rfl rfl hd_X7_mark ⟨(Nat.le_of_ble_eq_true rfl), (Nat.le_of_ble_eq_true rfl)⟩) (recvK hK (P_left (wc := wX7 cA ad z51.2) (R := (([(ba1, .inl (cA, 46, .inl B1))] : va_W))) (perm_of (fun c hc => by simp only [hc] <;> omega)) hP) 0 7 rfl rfl) hK hP (perm_of (fun c hc => by simp only [hc] <;> omega)) rfl hl.1 rfl (Nat.le_of_ble_eq_true rfl) dL_act_374 ⟨(Nat.le_of_ble_eq_true rfl), (Nat.le_of_ble_eq_true rfl)⟩ ?_
      refine lv_i2l hx hb dL_act_377 rfl ?_
      refine lv_ldc2 hx hb hown lkc133 dL_act_378 ?_
      refine lv_lmul hx hb dL_act_381 ?_
      refine lv_ladd hx hb dL_act_382 ?_
      refine lv_aload_n hx hb dL_act_383 rfl (lv_at hl 2 rfl) ?_
      refine lv_iload_n hx hb dL_act_384 rfl (lv_at hl 4 rfl) ?_
      refine lv_iconst (v := (1 : Int32)) hx hb dL_act_385 (by decide) ?_
      refine lv_iand hx hb dL_act_386 ?_
      refine lv_iload_n hx hb dL_act_387 rfl (lv_at hl 4 rfl) ?_
      refine lv_iconst (v := (1 : Int32)) hx hb dL_act_388 (by decide) ?_
      refine lv_ishr hx hb dL_act_389 ?_
      refine lv_iconst (v := (5 : Int32)) hx hb dL_act_390 (by decide) ?_
      obtain ⟨z55, hz55, h⟩ := bd_some h
      refine cR_S (As := [.int (x2 >>> ((1 : Int32) &&& 31)), .int (5 : Int32)]) (rest := [.int (x2 &&& (1 : Int32)), .ref (ad 6 0), .long (((z51.1.toInt64 * (100000 : Int64)) + (z52.toInt64 * (10000 : Int64))) + (z54.toInt64 * (10 : Int64)))]) ⟨hx, hb, hml, hown, hts⟩ (c_L_some l D cA  (x2 >>> ((1 : Int32) &&& 31)) (5 : Int32) z55 hz55) (va_cwS 2 hts gL_act_L_some rfl rfl rfl hd_L_some.2 ⟨(Nat.le_of_ble_eq_true rfl), (Nat.le_of_ble_eq_true rfl)⟩) hK hP [] rfl rfl hl.1 rfl (Nat.le_of_ble_eq_true rfl) dL_act_391 ⟨(Nat.le_of_ble_eq_true rfl), (Nat.le_of_ble_eq_true rfl)⟩ ?_
      refine lv_iconst (v := (1 : Int32)) hx hb dL_act_394 (by decide) ?_
      refine lv_isub hx hb dL_act_395 ?_
      obtain ⟨z56, hz56, h⟩ := bd_some h
      refine pR_V (As := [.int (x2 &&& (1 : Int32)), .int (z55 - (1 : Int32))]) (rest := [.long (((z51.1.toInt64 * (100000 : Int64)) + (z52.toInt64 * (10000 : Int64))) + (z54.toInt64 * (10 : Int64)))]) (wr := (([(ba1, .inl (cA, 46, .inl B1))] : va_W))) ⟨hx, hb, hml, hown, hts⟩ (c_X7_loose l D cA ad z51.2 (x2 &&& (1 : Int32)) (z55 - (1 : Int32)) z56 hz56) (cwV 2 hts gL_act_X7_loose rfl rfl rfl hd_X7_loose ⟨(Nat.le_of_ble_eq_true rfl), (Nat.le_of_ble_eq_true rfl)⟩) (recvK hK (P_left (wc := wX7 cA ad z51.2) (R := (([(ba1, .inl (cA, 46, .inl B1))] : va_W))) (perm_of (fun c hc => by simp only [hc] <;> omega)) hP) 0 7 rfl rfl) hK hP (perm_of (fun c hc => by simp only [hc] <;> omega)) rfl hl.1 rfl (Nat.le_of_ble_eq_true rfl) dL_act_396 ⟨(Nat.le_of_ble_eq_true rfl), (Nat.le_of_ble_eq_true rfl)⟩ ?_
      refine lv_i2l hx hb dL_act_399 rfl ?_
      refine lv_ladd hx hb dL_act_400 ?_
      cases h
      exact hend _ _ _ _ hP hD hS dL_act_401
    · have h := if_t hc h
      refine lv_aload_n hx hb dL_act_320 rfl (lv_at hl 2 rfl) ?_
      refine lv_iload_n hx hb dL_act_321 rfl (lv_at hl 4 rfl) ?_
      refine lv_iconst (v := (1 : Int32)) hx hb dL_act_322 (by decide) ?_
      refine lv_iand hx hb dL_act_323 ?_
      obtain ⟨z57, hz57, h⟩ := bd_some h
      refine pW_V (As := [.int (x2 &&& (1 : Int32))]) (rest := []) (wr := (([(ba1, .inl (cA, 46, .inl B1))] : va_W))) (wn := (wX7 cA ad z57.2 ++ (([(ba1, .inl (cA, 46, .inl B1))] : va_W)))) ⟨hx, hb, hml, hown, hts⟩ (c_X7_smooth l D cA ad X (x2 &&& (1 : Int32)) z57.1 z57.2 hz57) (cwV 1 hts gL_act_X7_smooth rfl rfl rfl hd_X7_smooth ⟨(Nat.le_of_ble_eq_true rfl), (Nat.le_of_ble_eq_true rfl)⟩) (recvK hK (P_left (wc := wX7 cA ad X) (R := (([(ba1, .inl (cA, 46, .inl B1))] : va_W))) (perm_of (fun c hc => by simp only [hc] <;> omega)) hP) 0 7 rfl rfl) hK hP hD hS hA (perm_of (fun c hc => by simp only [hc] <;> omega)) (perm_of (fun c hc => by simp only [hc] <;> omega)) rfl hl.1 rfl (Nat.le_of_ble_eq_true rfl) dL_act_324 ⟨(Nat.le_of_ble_eq_true rfl), (Nat.le_of_ble_eq_true rfl)⟩ (fun H locs hP hD hS => ?_)
      refine lv_i2l hx hb dL_act_327 rfl ?_
      refine lv_goto (tgt := 401) hx hb dL_act_328 (by decide) ?_
      cases h
      exact hend _ _ _ _ hP hD hS dL_act_401
  have h := if_f hc49 h
  by_cases hc58 : x1 &&& (15 : Int32) = (14 : Int32)
  · have h := if_t hc58 h
    refine lv_tableIn (off := 378) (tgt := 402) hx hb dL_act_24 (by rw [hc58]; decide) (by rw [hc58]; decide) (by rw [hc58]; decide) (by decide) ?_
    refine lv_aload_n hx hb dL_act_402 rfl (lv_at hl 2 rfl) ?_
    refine lv_iload_n hx hb dL_act_403 rfl (lv_at hl 3 rfl) ?_
    refine lv_iconst (v := (4 : Int32)) hx hb dL_act_404 (by decide) ?_
    refine lv_ishr hx hb dL_act_405 ?_
    refine lv_sipush (v := (10000 : Int32)) hx hb dL_act_406 (by decide) ?_
    obtain ⟨z59, hz59, h⟩ := bd_some h
    refine cR_S (As := [.int (x1 >>> ((4 : Int32) &&& 31)), .int (10000 : Int32)]) (rest := [.ref (ad 6 0)]) ⟨hx, hb, hml, hown, hts⟩ (c_L_some l D cA  (x1 >>> ((4 : Int32) &&& 31)) (10000 : Int32) z59 hz59) (va_cwS 2 hts gL_act_L_some rfl rfl rfl hd_L_some.2 ⟨(Nat.le_of_ble_eq_true rfl), (Nat.le_of_ble_eq_true rfl)⟩) hK hP [] rfl rfl hl.1 rfl (Nat.le_of_ble_eq_true rfl) dL_act_409 ⟨(Nat.le_of_ble_eq_true rfl), (Nat.le_of_ble_eq_true rfl)⟩ ?_
    refine lv_iconst (v := (1 : Int32)) hx hb dL_act_412 (by decide) ?_
    refine lv_iload_n hx hb dL_act_413 rfl (lv_at hl 4 rfl) ?_
    refine lv_bipush (v := (60 : Int32)) hx hb dL_act_414 (by decide) ?_
    obtain ⟨z60, hz60, h⟩ := bd_some h
    refine cR_S (As := [.int x2, .int (60 : Int32)]) (rest := [.int (1 : Int32), .int z59, .ref (ad 6 0)]) ⟨hx, hb, hml, hown, hts⟩ (c_L_some l D cA  x2 (60 : Int32) z60 hz60) (va_cwS 2 hts gL_act_L_some rfl rfl rfl hd_L_some.2 ⟨(Nat.le_of_ble_eq_true rfl), (Nat.le_of_ble_eq_true rfl)⟩) hK hP [] rfl rfl hl.1 rfl (Nat.le_of_ble_eq_true rfl) dL_act_416 ⟨(Nat.le_of_ble_eq_true rfl), (Nat.le_of_ble_eq_true rfl)⟩ ?_
    refine lv_iadd hx hb dL_act_419 ?_
    refine lv_iload_n hx hb dL_act_420 rfl (lv_at hl 4 rfl) ?_
    refine lv_bipush (v := (8 : Int32)) hx hb dL_act_421 (by decide) ?_
    refine lv_ishr hx hb dL_act_423 ?_
    refine lv_iconst (v := (1 : Int32)) hx hb dL_act_424 (by decide) ?_
    refine lv_iand hx hb dL_act_425 ?_
    obtain ⟨z61, hz61, h⟩ := bd_some h
    refine pR_V (As := [.int z59, .int ((1 : Int32) + z60), .int ((x2 >>> ((8 : Int32) &&& 31)) &&& (1 : Int32))]) (rest := []) (wr := (([(ba1, .inl (cA, 46, .inl B1))] : va_W))) ⟨hx, hb, hml, hown, hts⟩ (c_X7_year l D cA ad X z59 ((1 : Int32) + z60) ((x2 >>> ((8 : Int32) &&& 31)) &&& (1 : Int32)) z61 hz61) (cwV 3 hts gL_act_X7_year rfl rfl rfl hd_X7_year ⟨(Nat.le_of_ble_eq_true rfl), (Nat.le_of_ble_eq_true rfl)⟩) (recvK hK (P_left (wc := wX7 cA ad X) (R := (([(ba1, .inl (cA, 46, .inl B1))] : va_W))) (perm_of (fun c hc => by simp only [hc] <;> omega)) hP) 0 7 rfl rfl) hK hP (perm_of (fun c hc => by simp only [hc] <;> omega)) rfl hl.1 rfl (Nat.le_of_ble_eq_true rfl) dL_act_426 ⟨(Nat.le_of_ble_eq_true rfl), (Nat.le_of_ble_eq_true rfl)⟩ ?_
    refine lv_i2l hx hb dL_act_429 rfl ?_
    cases h
    exact hend _ _ _ _ hP hD hS dL_act_430
  have h := if_f hc58 h
  refine lv_tableOut (tgt := 431) hx hb dL_act_24 (sw_out14 hc3 hc5 hc7 hc11 hc15 hc18 hc21 hc23 hc27 hc30 hc34 hc36 hc40 hc49 hc58) (by decide) ?_
  refine lv_iload_n hx hb dL_act_431 rfl (lv_at hl 3 rfl) ?_
  refine lv_bipush (v := (16 : Int32)) hx hb dL_act_432 (by decide) ?_
  refine lv_iand hx hb dL_act_434 ?_
  refine lv_if_eq (tgt := 446) hx hb dL_act_435 (by decide) (fun hc => ?_) (fun hc => ?_)
  · have h := if_t hc h
    refine lv_aload_n hx hb dL_act_446 rfl (lv_at hl 2 rfl) ?_
    obtain ⟨z62, hz62, h⟩ := bd_some h
    refine pW_V (As := []) (rest := []) (wr := (([(ba1, .inl (cA, 46, .inl B1))] : va_W))) (wn := (wX7 cA ad z62.2 ++ (([(ba1, .inl (cA, 46, .inl B1))] : va_W)))) ⟨hx, hb, hml, hown, hts⟩ (c_X7_back l D cA ad X  z62.1 z62.2 hz62) (cwV 0 hts gL_act_X7_back rfl rfl rfl hd_X7_back ⟨(Nat.le_of_ble_eq_true rfl), (Nat.le_of_ble_eq_true rfl)⟩) (recvK hK (P_left (wc := wX7 cA ad X) (R := (([(ba1, .inl (cA, 46, .inl B1))] : va_W))) (perm_of (fun c hc => by simp only [hc] <;> omega)) hP) 0 7 rfl rfl) hK hP hD hS hA (perm_of (fun c hc => by simp only [hc] <;> omega)) (perm_of (fun c hc => by simp only [hc] <;> omega)) rfl hl.1 rfl (Nat.le_of_ble_eq_true rfl) dL_act_447 ⟨(Nat.le_of_ble_eq_true rfl), (Nat.le_of_ble_eq_true rfl)⟩ (fun H locs hP hD hS => ?_)
    refine lv_i2l hx hb dL_act_450 rfl ?_
    cases h
    exact hend _ _ _ _ hP hD hS dL_act_451
  · have h := if_f hc h
    refine lv_aload_n hx hb dL_act_438 rfl (lv_at hl 2 rfl) ?_
    obtain ⟨z63, hz63, h⟩ := bd_some h
    refine pW_V (As := []) (rest := []) (wr := (([(ba1, .inl (cA, 46, .inl B1))] : va_W))) (wn := (wX7 cA ad z63.2 ++ (([(ba1, .inl (cA, 46, .inl B1))] : va_W)))) ⟨hx, hb, hml, hown, hts⟩ (c_X7_keep l D cA ad X  z63.1 z63.2 hz63) (cwV 0 hts gL_act_X7_keep rfl rfl rfl hd_X7_keep ⟨(Nat.le_of_ble_eq_true rfl), (Nat.le_of_ble_eq_true rfl)⟩) (recvK hK (P_left (wc := wX7 cA ad X) (R := (([(ba1, .inl (cA, 46, .inl B1))] : va_W))) (perm_of (fun c hc => by simp only [hc] <;> omega)) hP) 0 7 rfl rfl) hK hP hD hS hA (perm_of (fun c hc => by simp only [hc] <;> omega)) (perm_of (fun c hc => by simp only [hc] <;> omega)) rfl hl.1 rfl (Nat.le_of_ble_eq_true rfl) dL_act_439 ⟨(Nat.le_of_ble_eq_true rfl), (Nat.le_of_ble_eq_true rfl)⟩ (fun H locs hP hD hS => ?_)
    refine lv_i2l hx hb dL_act_442 rfl ?_
    refine lv_goto (tgt := 451) hx hb dL_act_443 (by decide) ?_
    cases h
    exact hend _ _ _ _ hP hD hS dL_act_451
