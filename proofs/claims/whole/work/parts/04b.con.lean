abbrev rmX8_in : Room := ({ frames := 0, cells := 0, slots := 0, locals := 0 } : Room)
set_option maxHeartbeats 4000000 in
set_option maxRecDepth 100000 in
theorem c_X8_in (l : Launch) (D : va_G) (cA : ClassId) (x0 : Int64) (x2 : Int64) (x4 : Int64) (r : Int32) (h : f_X8_in x0 x2 x4 = some r) : ConR l yX8_in wsX8_in rmX8_in D cA [.long x0, .long x2, .long x4] ([] : va_W) r := by
  refine ConZ.enter (cc := cX8_in) (maxL := 6) (by decide) rfl (Nat.le_of_ble_eq_true rfl) ?_
  intro p e s m args below meth c Q hx hb hml hown hts hK hP  hend ls hl
  have hl : lv_has ls 6 [(0, .long x0), (2, .long x2), (4, .long x4)] := hl
  unfold f_X8_in at h
  refine lv_lload_n hx hb dX8_in_0 rfl (lv_at hl 0 rfl) ?_
  refine lv_lload_n hx hb dX8_in_1 rfl (lv_at hl 1 rfl) ?_
  refine W.lcmp hx hb dX8_in_2 ?_
  refine lv_if_lt (tgt := 17) hx hb dX8_in_3 (by decide) (fun hc => ?_) (fun hc => ?_)
  · have h := if_t hc h
    refine lv_iconst (v := (0 : Int32)) hx hb dX8_in_17 (by decide) ?_
    cases h
    exact hend _ _ (by decide) dX8_in_18
  · have h := if_f hc h
    refine lv_lload_n hx hb dX8_in_6 rfl (lv_at hl 0 rfl) ?_
    refine lv_lload hx hb dX8_in_7 (lv_at hl 2 rfl) ?_
    refine W.lcmp hx hb dX8_in_9 ?_
    refine lv_if_gt (tgt := 17) hx hb dX8_in_10 (by decide) (fun hc => ?_) (fun hc => ?_)
    · have h := if_t hc h
      refine lv_iconst (v := (0 : Int32)) hx hb dX8_in_17 (by decide) ?_
      cases h
      exact hend _ _ (by decide) dX8_in_18
    · have h := if_f hc h
      refine lv_iconst (v := (1 : Int32)) hx hb dX8_in_13 (by decide) ?_
      refine lv_goto (tgt := 18) hx hb dX8_in_14 (by decide) ?_
      cases h
      exact hend _ _ (by decide) dX8_in_18
abbrev rmX8_has : Room := ({ frames := 0, cells := 0, slots := 0, locals := 0 } : Room)
set_option maxHeartbeats 4000000 in
set_option maxRecDepth 100000 in
theorem c_X8_has (l : Launch) (D : va_G) (cA : ClassId) (x0 : Int32) (x1 : Int32) (r : Int32) (h : f_X8_has x0 x1 = some r) : ConR l yX8_has wsX8_has rmX8_has D cA [.int x0, .int x1] ([] : va_W) r := by
  refine ConZ.enter (cc := cX8_has) (maxL := 2) (by decide) rfl (Nat.le_of_ble_eq_true rfl) ?_
  intro p e s m args below meth c Q hx hb hml hown hts hK hP  hend ls hl
  have hl : lv_has ls 2 [(0, .int x0), (1, .int x1)] := hl
  unfold f_X8_has at h
  refine lv_iload_n hx hb dX8_has_0 rfl (lv_at hl 0 rfl) ?_
  refine lv_iload_n hx hb dX8_has_1 rfl (lv_at hl 1 rfl) ?_
  refine lv_ishr hx hb dX8_has_2 ?_
  refine lv_iconst (v := (1 : Int32)) hx hb dX8_has_3 (by decide) ?_
  refine lv_iand hx hb dX8_has_4 ?_
  refine lv_iconst (v := (1 : Int32)) hx hb dX8_has_5 (by decide) ?_
  refine lv_icmp_ne (tgt := 13) hx hb dX8_has_6 (by decide) (fun hc => ?_) (fun hc => ?_)
  · have h := if_f hc h
    refine lv_iconst (v := (0 : Int32)) hx hb dX8_has_13 (by decide) ?_
    cases h
    exact hend _ _ (by decide) dX8_has_14
  · have h := if_t hc h
    refine lv_iconst (v := (1 : Int32)) hx hb dX8_has_9 (by decide) ?_
    refine lv_goto (tgt := 14) hx hb dX8_has_10 (by decide) ?_
    cases h
    exact hend _ _ (by decide) dX8_has_14
abbrev rmX8_bits : Room := ({ frames := 0, cells := 0, slots := 0, locals := 0 } : Room)
set_option maxHeartbeats 4000000 in
set_option maxRecDepth 100000 in
theorem c_X8_bits (l : Launch) (D : va_G) (cA : ClassId) (x0 : Int32) (r : Int32) (h : f_X8_bits x0 = some r) : ConR l yX8_bits wsX8_bits rmX8_bits D cA [.int x0] ([] : va_W) r := by
  refine ConR.enter (cc := cX8_bits) (maxL := 3) (by decide) rfl (Nat.le_of_ble_eq_true rfl) ?_
  intro p e s m args below meth c Q hx hb hml hown hts hK hP  hend ls hl
  have hl : lv_has ls 3 [(0, .int x0)] := hl
  unfold f_X8_bits at h
  have LP4 : ∀ (n : Nat) (x1 : Int32) (x2 : Int32) (ls : Array Slot) (_ : lv_has ls 3 [(1, .int x1), (2, .int x2)]) (res : Int32) (_ : L_X8_bits_4 n x1 x2 = some res) (_ : (∀ (ls : Array Slot), lv_has ls 3 [(1, .int res)] → W p l e rmX8_bits s m args below meth c s.heap [] 0 0 Q (F0 m 20 ls []))), W p l e rmX8_bits s m args below meth c s.heap [] 0 0 Q (F0 m 4 ls []) := by
    intro n
    induction n with
    | zero =>
      intro x1 x2 ls hl res h K0
      exact absurd h (fun q : (none : Option (Int32)) = some res => by cases q)
    | succ n ih =>
      intro x1 x2 ls hl res h K0
      have h : L_X8_bits_4_step (L_X8_bits_4 n) x1 x2 = some res := h
      unfold L_X8_bits_4_step at h
      refine lv_iload_n hx hb dX8_bits_4 rfl (lv_at hl 1 rfl) ?_
      refine lv_if_eq (tgt := 20) hx hb dX8_bits_5 (by decide) (fun hc => ?_) (fun hc => ?_)
      · have h := if_t hc h
        cases h
        exact K0 _ (lv_sub hl [0] rfl)
      · have h := if_f hc h
        obtain ⟨v1, ev1⟩ : ∃ y : Int32, y = x1 + (1 : Int32) := ⟨_, rfl⟩
        refine lv_iinc (v := v1) (lv' := [(1, .int v1), (2, .int x2)]) hx hb dX8_bits_8 hl (k := 0) rfl (by rw [ev1]; rfl) (by decide) rfl (fun ls hl => ?_)
        have h := nm_ap ev1 h
        refine lv_iload_n hx hb dX8_bits_11 rfl (lv_at hl 1 rfl) ?_
        refine lv_iload_n hx hb dX8_bits_12 rfl (lv_at hl 1 rfl) ?_
        refine lv_iconst (v := (1 : Int32)) hx hb dX8_bits_13 (by decide) ?_
        refine lv_isub hx hb dX8_bits_14 ?_
        refine lv_iand hx hb dX8_bits_15 ?_
        refine lv_topi (fun v2 ev2 => ?_)
        have h := nm_ap ev2 h
        refine lv_istore_n (lv' := [(2, .int v2), (1, .int v1)]) hx hb dX8_bits_16 rfl hl (by decide) rfl (fun ls hl => ?_)
        refine lv_goto (tgt := 4) hx hb dX8_bits_17 (by decide) ?_
        exact ih v1 v2 ls (lv_sub hl [1, 0] rfl) _ h K0
  refine lv_iconst (v := (0 : Int32)) hx hb dX8_bits_0 (by decide) ?_
  refine lv_istore_n (lv' := [(1, .int (0 : Int32)), (0, .int x0)]) hx hb dX8_bits_1 rfl hl (by decide) rfl (fun ls hl => ?_)
  refine lv_iload_n hx hb dX8_bits_2 rfl (lv_at hl 1 rfl) ?_
  refine lv_istore_n (lv' := [(2, .int x0), (1, .int (0 : Int32)), (0, .int x0)]) hx hb dX8_bits_3 rfl hl (by decide) rfl (fun ls hl => ?_)
  obtain ⟨z1, hz1, h⟩ := bd_some h
  refine LP4 512 (0 : Int32) x0 ls (lv_sub hl [1, 0] rfl) _ hz1 ?_
  · intro ls hl
    refine lv_iload_n hx hb dX8_bits_20 rfl (lv_at hl 0 rfl) ?_
    cases h
    exact hend _ _ dX8_bits_21
abbrev rmX8_noTown : Room := ({ frames := 0, cells := 0, slots := 0, locals := 0 } : Room)
set_option maxHeartbeats 4000000 in
set_option maxRecDepth 100000 in
theorem c_X8_noTown (l : Launch) (D : va_G) (cA : ClassId) (a0 : (Nat → Nat)) (o0 : Ob) (x1 : Int32) (o0_ : Ob) (h : f_X8_noTown o0 x1 = some o0_) : ConV l yX8_noTown wsX8_noTown rmX8_noTown D cA [.ref (a0 0), .int x1] (wX8 cA a0 o0) (wX8 cA a0 o0_) := by
  refine ConV.enter (cc := cX8_noTown) (maxL := 2) (by decide) rfl (Nat.le_of_ble_eq_true rfl) ?_
  intro p e s m args below meth c Q A hx hb hml hown hts hK hP hD hA hend ls hl
  have hS : va_S A s.heap s.heap [] := va_S.rf
  have hl : lv_has ls 2 [(0, .ref (a0 0)), (1, .int x1)] := hl
  unfold f_X8_noTown at h
  have lkf13 := hts (.fieldLink RX8 13 "TiedToTownModel" "personMany" "[I") (List.mem_of_getElem? (i := 1) rfl)
  have hinX8 : ∀ w ∈ wsX80, w ∈ wsX8_noTown := fun w h => List.mem_cons_of_mem _ (List.mem_append_right _ h)
  have lkf16 := hts (.fieldLink RX8 16 "TiedToTownModel" "alive" "[I") (List.mem_of_getElem? (i := 2) rfl)
  have lkf19 := hts (.fieldLink RX8 19 "TiedToTownModel" "law" "[I") (List.mem_of_getElem? (i := 3) rfl)
  have lkf22 := hts (.fieldLink RX8 22 "TiedToTownModel" "many" "[I") (List.mem_of_getElem? (i := 4) rfl)
  have lkf40 := hts (.fieldLink RX8 40 "TiedToTownModel" "tied" "[I") (List.mem_of_getElem? (i := 5) rfl)
  have lkf43 := hts (.fieldLink RX8 43 "TiedToTownModel" "day" "[I") (List.mem_of_getElem? (i := 6) rfl)
  refine lv_aload_n hx hb dX8_noTown_0 rfl (lv_at hl 0 rfl) ?_
  refine va_get (D := D) (ci := 8) (v := .ref (a0 3)) (C := RX8) (T := TX8) (N := 27) hx hb hts hinX8 hown hK.1 hP 0 rfl rfl 2 (by decide) lkf13 (fun _ h9 => h9) rfl dX8_noTown_1 ?_
  refine lv_iload_n hx hb dX8_noTown_4 rfl (lv_at hl 1 rfl) ?_
  refine lv_iconst (v := (0 : Int32)) hx hb dX8_noTown_5 (by decide) ?_
  obtain ⟨hi1, h⟩ := gd_some h
  refine iast (j := x1.toNatClampNeg) (wn := (wX8 cA a0 (sA o0 2 x1.toNatClampNeg (0 : Int32)))) hx hb hK hP hD hS 2 rfl rfl (ck_in hi1) dX8_noTown_6 rfl (fun H locs hP hD hS => ?_)
  obtain ⟨s2, es2⟩ : ∃ z, z = sA o0 2 x1.toNatClampNeg (0 : Int32) := ⟨_, rfl⟩
  rw [← es2] at hP hD
  have h := nm_ap es2 h
  refine lv_aload_n hx hb dX8_noTown_7 rfl (lv_at hl 0 rfl) ?_
  refine va_get (D := D) (ci := 8) (v := .ref (a0 4)) (C := RX8) (T := TX8) (N := 27) hx hb hts hinX8 hown hK.1 hP 0 rfl rfl 3 (by decide) lkf16 (fun _ h9 => h9) rfl dX8_noTown_8 ?_
  refine lv_iload_n hx hb dX8_noTown_11 rfl (lv_at hl 1 rfl) ?_
  refine lv_iconst (v := (0 : Int32)) hx hb dX8_noTown_12 (by decide) ?_
  refine iast (j := x1.toNatClampNeg) (wn := (wX8 cA a0 (sA s2 3 x1.toNatClampNeg (0 : Int32)))) hx hb hK hP hD hS 3 rfl rfl (ck_in hi1) dX8_noTown_13 rfl (fun H locs hP hD hS => ?_)
  obtain ⟨s3, es3⟩ : ∃ z, z = sA s2 3 x1.toNatClampNeg (0 : Int32) := ⟨_, rfl⟩
  rw [← es3] at hP hD
  have h := nm_ap es3 h
  refine lv_aload_n hx hb dX8_noTown_14 rfl (lv_at hl 0 rfl) ?_
  refine va_get (D := D) (ci := 8) (v := .ref (a0 5)) (C := RX8) (T := TX8) (N := 27) hx hb hts hinX8 hown hK.1 hP 0 rfl rfl 4 (by decide) lkf19 (fun _ h9 => h9) rfl dX8_noTown_15 ?_
  refine lv_iload_n hx hb dX8_noTown_18 rfl (lv_at hl 1 rfl) ?_
  refine lv_iconst (v := (0 : Int32)) hx hb dX8_noTown_19 (by decide) ?_
  refine iast (j := x1.toNatClampNeg) (wn := (wX8 cA a0 (sA s3 4 x1.toNatClampNeg (0 : Int32)))) hx hb hK hP hD hS 4 rfl rfl (ck_in hi1) dX8_noTown_20 rfl (fun H locs hP hD hS => ?_)
  obtain ⟨s4, es4⟩ : ∃ z, z = sA s3 4 x1.toNatClampNeg (0 : Int32) := ⟨_, rfl⟩
  rw [← es4] at hP hD
  have h := nm_ap es4 h
  refine lv_aload_n hx hb dX8_noTown_21 rfl (lv_at hl 0 rfl) ?_
  refine va_get (D := D) (ci := 8) (v := .ref (a0 6)) (C := RX8) (T := TX8) (N := 27) hx hb hts hinX8 hown hK.1 hP 0 rfl rfl 5 (by decide) lkf22 (fun _ h9 => h9) rfl dX8_noTown_22 ?_
  refine lv_iload_n hx hb dX8_noTown_25 rfl (lv_at hl 1 rfl) ?_
  refine lv_iconst (v := (0 : Int32)) hx hb dX8_noTown_26 (by decide) ?_
  obtain ⟨hi5, h⟩ := gd_some h
  refine iast (j := x1.toNatClampNeg) (wn := (wX8 cA a0 (sA s4 5 x1.toNatClampNeg (0 : Int32)))) hx hb hK hP hD hS 5 rfl rfl (ck_in hi5) dX8_noTown_27 rfl (fun H locs hP hD hS => ?_)
  obtain ⟨s6, es6⟩ : ∃ z, z = sA s4 5 x1.toNatClampNeg (0 : Int32) := ⟨_, rfl⟩
  rw [← es6] at hP hD
  have h := nm_ap es6 h
  refine lv_aload_n hx hb dX8_noTown_28 rfl (lv_at hl 0 rfl) ?_
  refine va_get (D := D) (ci := 8) (v := .ref (a0 12)) (C := RX8) (T := TX8) (N := 27) hx hb hts hinX8 hown hK.1 hP 0 rfl rfl 11 (by decide) lkf40 (fun _ h9 => h9) rfl dX8_noTown_29 ?_
  refine lv_iload_n hx hb dX8_noTown_32 rfl (lv_at hl 1 rfl) ?_
  refine lv_iconst (v := (0 : Int32)) hx hb dX8_noTown_33 (by decide) ?_
  refine iast (j := x1.toNatClampNeg) (wn := (wX8 cA a0 (sA s6 11 x1.toNatClampNeg (0 : Int32)))) hx hb hK hP hD hS 11 rfl rfl (ck_in hi5) dX8_noTown_34 rfl (fun H locs hP hD hS => ?_)
  obtain ⟨s7, es7⟩ : ∃ z, z = sA s6 11 x1.toNatClampNeg (0 : Int32) := ⟨_, rfl⟩
  rw [← es7] at hP hD
  have h := nm_ap es7 h
  refine lv_aload_n hx hb dX8_noTown_35 rfl (lv_at hl 0 rfl) ?_
  refine va_get (D := D) (ci := 8) (v := .ref (a0 13)) (C := RX8) (T := TX8) (N := 27) hx hb hts hinX8 hown hK.1 hP 0 rfl rfl 12 (by decide) lkf43 (fun _ h9 => h9) rfl dX8_noTown_36 ?_
  refine lv_iload_n hx hb dX8_noTown_39 rfl (lv_at hl 1 rfl) ?_
  refine lv_iconst (v := (0 : Int32)) hx hb dX8_noTown_40 (by decide) ?_
  refine iast (j := x1.toNatClampNeg) (wn := (wX8 cA a0 (sA s7 12 x1.toNatClampNeg (0 : Int32)))) hx hb hK hP hD hS 12 rfl rfl (ck_in hi5) dX8_noTown_41 rfl (fun H locs hP hD hS => ?_)
  obtain ⟨s8, es8⟩ : ∃ z, z = sA s7 12 x1.toNatClampNeg (0 : Int32) := ⟨_, rfl⟩
  rw [← es8] at hP hD
  have h := nm_ap es8 h
  cases h
  exact hend _ _ _ _ hP hD hS dX8_noTown_42
abbrev rmX8_write : Room := ({ frames := 1, cells := 0, slots := 0, locals := 25 } : Room)
set_option maxHeartbeats 4000000 in
set_option maxRecDepth 100000 in
theorem c_X8_write (l : Launch) (D : va_G) (cA : ClassId) (a0 : (Nat → Nat)) (o0 : Ob) (x1 : Int32) (x2 : Int64) (r : Int32) (o0_ : Ob) (h : f_X8_write o0 x1 x2 = some (r, o0_)) : ConW l yX8_write wsX8_write rmX8_write D cA [.ref (a0 0), .int x1, .long x2] (wX8 cA a0 o0) r (wX8 cA a0 o0_) := by
  refine ConW.enter (cc := cX8_write) (maxL := 5) (by decide) rfl (Nat.le_of_ble_eq_true rfl) ?_
  intro p e s m args below meth c Q A hx hb hml hown hts hK hP hD hA hend ls hl
  have hS : va_S A s.heap s.heap [] := va_S.rf
  have hl : lv_has ls 5 [(0, .ref (a0 0)), (1, .int x1), (2, .long x2)] := hl
  unfold f_X8_write at h
  have lkc80 := hts (.constantLong RX8 80 (8)) (List.mem_of_getElem? (i := 1) rfl)
  have lkf86 := hts (.fieldLink RX8 86 "TiedToTownModel" "length" "I") (List.mem_of_getElem? (i := 2) rfl)
  have hinX8 : ∀ w ∈ wsX80, w ∈ wsX8_write := fun w h => List.mem_cons_of_mem _ (List.mem_append_right _ h)
  have lkf7 := hts (.fieldLink RX8 7 "TiedToTownModel" "text" "[I") (List.mem_of_getElem? (i := 3) rfl)
  have lkc90 := hts (.constantLong RX8 90 (255)) (List.mem_of_getElem? (i := 4) rfl)
  have LP34 : ∀ (x2 : Int64) (n : Nat) (x4 : Int32) (o0 : Ob) (H : Heap) (locs : List Loc) (_ : va_P D vwCl (wX8 cA a0 o0) H) (_ : va_D A (wX8 cA a0 o0)) (_ : va_S A s.heap H locs) (ls : Array Slot) (_ : lv_has ls 5 [(0, .ref (a0 0)), (2, .long x2), (4, .int x4)]) (res : Ob) (_ : L_X8_write_34 x2 n x4 o0 = some res) (_ : (∀ (H : Heap) (locs : List Loc) (_ : va_P D vwCl (wX8 cA a0 res) H) (_ : va_D A (wX8 cA a0 res)) (_ : va_S A s.heap H locs) (ls : Array Slot), lv_has ls 5 [(0, .ref (a0 0))] → W p l e rmX8_write s m args below meth c H locs 0 0 Q (F0 m 76 ls []))), W p l e rmX8_write s m args below meth c H locs 0 0 Q (F0 m 34 ls []) := by
    intro x2 n
    induction n with
    | zero =>
      intro x4 o0 H locs hP hD hS ls hl res h K0
      exact absurd h (fun q : (none : Option (Ob)) = some res => by cases q)
    | succ n ih =>
      intro x4 o0 H locs hP hD hS ls hl res h K0
      have h : L_X8_write_34_step x2 (L_X8_write_34 x2 n) x4 o0 = some res := h
      unfold L_X8_write_34_step at h
      refine lv_iload hx hb dX8_write_34 (lv_at hl 2 rfl) ?_
      refine lv_if_lt (tgt := 76) hx hb dX8_write_36 (by decide) (fun hc => ?_) (fun hc => ?_)
      · have h := if_t hc h
        cases h
        exact K0 _ _ hP hD hS _ (lv_sub hl [0] rfl)
      · have h := if_f hc h
        refine lv_aload_n hx hb dX8_write_39 rfl (lv_at hl 0 rfl) ?_
        refine va_get (D := D) (ci := 8) (v := .ref (a0 2)) (C := RX8) (T := TX8) (N := 27) hx hb hts hinX8 hown hK.1 hP 0 rfl rfl 1 (by decide) lkf7 (fun _ h9 => h9) rfl dX8_write_40 ?_
        refine lv_aload_n hx hb dX8_write_43 rfl (lv_at hl 0 rfl) ?_
        refine va_get (D := D) (ci := 8) (v := .int (o0.1 0)) (C := RX8) (T := TX8) (N := 27) hx hb hts hinX8 hown hK.1 hP 0 rfl rfl 0 (by decide) lkf86 (fun _ h9 => h9) rfl dX8_write_44 ?_
        refine lv_lload_n hx hb dX8_write_47 rfl (lv_at hl 1 rfl) ?_
        refine lv_bipush (v := (8 : Int32)) hx hb dX8_write_48 (by decide) ?_
        refine lv_iload hx hb dX8_write_50 (lv_at hl 2 rfl) ?_
        refine lv_imul hx hb dX8_write_52 ?_
        refine lv_lshr hx hb dX8_write_53 rfl ?_
        refine lv_ldc2 hx hb hown lkc90 dX8_write_54 ?_
        refine lv_land hx hb dX8_write_57 ?_
        refine lv_l2i hx hb dX8_write_58 rfl ?_
        obtain ⟨hi1, h⟩ := gd_some h
        refine iast (j := (o0.1 0).toNatClampNeg) (wn := (wX8 cA a0 (sA o0 1 (o0.1 0).toNatClampNeg (((x2 >>> (((8 : Int32) * x4).toInt64 &&& 63)) &&& (255 : Int64)).toInt32)))) hx hb hK hP hD hS 1 rfl rfl (ck_in hi1) dX8_write_59 rfl (fun H locs hP hD hS => ?_)
        obtain ⟨s2, es2⟩ : ∃ z, z = sA o0 1 (o0.1 0).toNatClampNeg (((x2 >>> (((8 : Int32) * x4).toInt64 &&& 63)) &&& (255 : Int64)).toInt32) := ⟨_, rfl⟩
        rw [← es2] at hP hD
        have h := nm_ap es2 h
        refine lv_aload_n hx hb dX8_write_60 rfl (lv_at hl 0 rfl) ?_
        refine lv_dup hx hb dX8_write_61 rfl ?_
        refine va_get (D := D) (ci := 8) (v := .int (s2.1 0)) (C := RX8) (T := TX8) (N := 27) hx hb hts hinX8 hown hK.1 hP 0 rfl rfl 0 (by decide) lkf86 (fun _ h9 => h9) rfl dX8_write_62 ?_
        refine lv_iconst (v := (1 : Int32)) hx hb dX8_write_65 (by decide) ?_
        refine lv_iadd hx hb dX8_write_66 ?_
        refine va_put (D := D) (ci := 8) (v := .int ((s2.1 0) + (1 : Int32))) (ty := .int) (C := RX8) (T := TX8) (N := 27) hx hb hts hinX8 tyX8 tyX8_ok nmX8 hown hK.1 hP hD hS 0 rfl rfl 0 (by decide) lkf86 (fun _ h9 => h9) rfl (by decide +kernel) rfl rfl (Nat.le_of_ble_eq_true rfl) dX8_write_67 (fun H locs hP hD hS => ?_)
        have hP : va_P D vwCl (wX8 cA a0 (sF s2 0 ((s2.1 0) + (1 : Int32)))) H := hP
        have hD : va_D A (wX8 cA a0 (sF s2 0 ((s2.1 0) + (1 : Int32)))) := hD
        obtain ⟨s3, es3⟩ : ∃ z, z = sF s2 0 ((s2.1 0) + (1 : Int32)) := ⟨_, rfl⟩
        rw [← es3] at hP hD
        have h := nm_ap es3 h
        obtain ⟨v4, ev4⟩ : ∃ y : Int32, y = x4 + (-1 : Int32) := ⟨_, rfl⟩
        refine lv_iinc (v := v4) (lv' := [(4, .int v4), (0, .ref (a0 0)), (2, .long x2)]) hx hb dX8_write_70 hl (k := 2) rfl (by rw [ev4]; rfl) (by decide) rfl (fun ls hl => ?_)
        have h := nm_ap ev4 h
        refine lv_goto (tgt := 34) hx hb dX8_write_73 (by decide) ?_
        exact ih v4 s3 _ _ hP hD hS ls (lv_sub hl [1, 2, 0] rfl) _ h K0
  refine lv_iload_n hx hb dX8_write_0 rfl (lv_at hl 1 rfl) ?_
  refine lv_i2l hx hb dX8_write_1 rfl ?_
  refine lv_lconst (v := (1 : Int64)) hx hb dX8_write_2 (by decide) ?_
  refine lv_ldc2 hx hb hown lkc80 dX8_write_3 ?_
  obtain ⟨z1, hz1, h⟩ := bd_some h
  refine cR_S (As := [.long x1.toInt64, .long (1 : Int64), .long (8 : Int64)]) (rest := []) ⟨hx, hb, hml, hown, hts⟩ (c_X8_in l D cA  x1.toInt64 (1 : Int64) (8 : Int64) z1 hz1) (va_cwS 3 hts gX8_write_X8_in rfl rfl rfl hd_X8_in.2 ⟨(Nat.le_of_ble_eq_true rfl), (Nat.le_of_ble_eq_true rfl)⟩) hK hP [] rfl rfl hl.1 rfl (Nat.le_of_ble_eq_true rfl) dX8_write_6 ⟨(Nat.le_of_ble_eq_true rfl), (Nat.le_of_ble_eq_true rfl)⟩ ?_
  refine lv_if_ne (tgt := 14) hx hb dX8_write_9 (by decide) (fun hc => ?_) (fun hc => ?_)
  · have h := if_f hc h
    refine lv_aload_n hx hb dX8_write_14 rfl (lv_at hl 0 rfl) ?_
    refine va_get (D := D) (ci := 8) (v := .int (o0.1 0)) (C := RX8) (T := TX8) (N := 27) hx hb hts hinX8 hown hK.1 hP 0 rfl rfl 0 (by decide) lkf86 (fun _ h9 => h9) rfl dX8_write_15 ?_
    refine lv_iload_n hx hb dX8_write_18 rfl (lv_at hl 1 rfl) ?_
    refine lv_iadd hx hb dX8_write_19 ?_
    refine lv_sipush (v := (300 : Int32)) hx hb dX8_write_20 (by decide) ?_
    refine lv_icmp_le (tgt := 29) hx hb dX8_write_23 (by decide) (fun hc => ?_) (fun hc => ?_)
    · have h := if_t hc h
      refine lv_iload_n hx hb dX8_write_29 rfl (lv_at hl 1 rfl) ?_
      refine lv_iconst (v := (1 : Int32)) hx hb dX8_write_30 (by decide) ?_
      refine lv_isub hx hb dX8_write_31 ?_
      refine lv_topi (fun v2 ev2 => ?_)
      have h := nm_ap ev2 h
      refine lv_istore (lv' := [(4, .int v2), (0, .ref (a0 0)), (1, .int x1), (2, .long x2)]) hx hb dX8_write_32 hl (by decide) rfl (fun ls hl => ?_)
      obtain ⟨z3, hz3, h⟩ := bd_some h
      refine LP34 x2 512 v2 o0 _ _ hP hD hS ls (lv_sub hl [1, 3, 0] rfl) _ hz3 ?_
      · intro H locs hP hD hS ls hl
        refine lv_aload_n hx hb dX8_write_76 rfl (lv_at hl 0 rfl) ?_
        refine va_get (D := D) (ci := 8) (v := .int (z3.1 0)) (C := RX8) (T := TX8) (N := 27) hx hb hts hinX8 hown hK.1 hP 0 rfl rfl 0 (by decide) lkf86 (fun _ h9 => h9) rfl dX8_write_77 ?_
        cases h
        exact hend _ _ _ _ hP hD hS dX8_write_80
    · have h := if_f hc h
      refine lv_bipush (v := (-3 : Int32)) hx hb dX8_write_26 (by decide) ?_
      cases h
      exact hend _ _ _ _ hP hD hS dX8_write_28
  · have h := if_t hc h
    refine lv_iconst (v := (-1 : Int32)) hx hb dX8_write_12 (by decide) ?_
    cases h
    exact hend _ _ _ _ hP hD hS dX8_write_13
abbrev rmX8_wipe : Room := ({ frames := 0, cells := 0, slots := 0, locals := 0 } : Room)
set_option maxHeartbeats 4000000 in
set_option maxRecDepth 100000 in
theorem c_X8_wipe (l : Launch) (D : va_G) (cA : ClassId) (a0 : (Nat → Nat)) (o0 : Ob) (r : Int32) (o0_ : Ob) (h : f_X8_wipe o0 = some (r, o0_)) : ConW l yX8_wipe wsX8_wipe rmX8_wipe D cA [.ref (a0 0)] (wX8 cA a0 o0) r (wX8 cA a0 o0_) := by
  refine ConW.enter (cc := cX8_wipe) (maxL := 2) (by decide) rfl (Nat.le_of_ble_eq_true rfl) ?_
  intro p e s m args below meth c Q A hx hb hml hown hts hK hP hD hA hend ls hl
  have hS : va_S A s.heap s.heap [] := va_S.rf
  have hl : lv_has ls 2 [(0, .ref (a0 0))] := hl
  unfold f_X8_wipe at h
  have lkf86 := hts (.fieldLink RX8 86 "TiedToTownModel" "length" "I") (List.mem_of_getElem? (i := 1) rfl)
  have hinX8 : ∀ w ∈ wsX80, w ∈ wsX8_wipe := fun w h => List.mem_cons_of_mem _ (List.mem_append_right _ h)
  refine lv_aload_n hx hb dX8_wipe_0 rfl (lv_at hl 0 rfl) ?_
  refine va_get (D := D) (ci := 8) (v := .int (o0.1 0)) (C := RX8) (T := TX8) (N := 27) hx hb hts hinX8 hown hK.1 hP 0 rfl rfl 0 (by decide) lkf86 (fun _ h9 => h9) rfl dX8_wipe_1 ?_
  refine lv_topi (fun v1 ev1 => ?_)
  have h := nm_ap ev1 h
  refine lv_istore_n (lv' := [(1, .int v1), (0, .ref (a0 0))]) hx hb dX8_wipe_4 rfl hl (by decide) rfl (fun ls hl => ?_)
  refine lv_aload_n hx hb dX8_wipe_5 rfl (lv_at hl 1 rfl) ?_
  refine lv_iconst (v := (0 : Int32)) hx hb dX8_wipe_6 (by decide) ?_
  refine va_put (D := D) (ci := 8) (v := .int (0 : Int32)) (ty := .int) (C := RX8) (T := TX8) (N := 27) hx hb hts hinX8 tyX8 tyX8_ok nmX8 hown hK.1 hP hD hS 0 rfl rfl 0 (by decide) lkf86 (fun _ h9 => h9) rfl (by decide +kernel) rfl rfl (Nat.le_of_ble_eq_true rfl) dX8_wipe_7 (fun H locs hP hD hS => ?_)
  have hP : va_P D vwCl (wX8 cA a0 (sF o0 0 (0 : Int32))) H := hP
  have hD : va_D A (wX8 cA a0 (sF o0 0 (0 : Int32))) := hD
  obtain ⟨s2, es2⟩ : ∃ z, z = sF o0 0 (0 : Int32) := ⟨_, rfl⟩
  rw [← es2] at hP hD
  have h := nm_ap es2 h
  refine lv_iload_n hx hb dX8_wipe_10 rfl (lv_at hl 0 rfl) ?_
  cases h
  exact hend _ _ _ _ hP hD hS dX8_wipe_11
abbrev rmX8_byteAt : Room := ({ frames := 0, cells := 0, slots := 0, locals := 0 } : Room)
set_option maxHeartbeats 4000000 in
set_option maxRecDepth 100000 in
theorem c_X8_byteAt (l : Launch) (D : va_G) (cA : ClassId) (a0 : (Nat → Nat)) (o0 : Ob) (x1 : Int32) (r : Int32) (h : f_X8_byteAt o0 x1 = some r) : ConR l yX8_byteAt wsX8_byteAt rmX8_byteAt D cA [.ref (a0 0), .int x1] (wX8 cA a0 o0) r := by
  refine ConR.enter (cc := cX8_byteAt) (maxL := 2) (by decide) rfl (Nat.le_of_ble_eq_true rfl) ?_
  intro p e s m args below meth c Q hx hb hml hown hts hK hP  hend ls hl
  have hl : lv_has ls 2 [(0, .ref (a0 0)), (1, .int x1)] := hl
  unfold f_X8_byteAt at h
  have lkf86 := hts (.fieldLink RX8 86 "TiedToTownModel" "length" "I") (List.mem_of_getElem? (i := 1) rfl)
  have hinX8 : ∀ w ∈ wsX80, w ∈ wsX8_byteAt := fun w h => List.mem_cons_of_mem _ (List.mem_append_right _ h)
  have lkf7 := hts (.fieldLink RX8 7 "TiedToTownModel" "text" "[I") (List.mem_of_getElem? (i := 2) rfl)
  refine lv_iload_n hx hb dX8_byteAt_0 rfl (lv_at hl 1 rfl) ?_
  refine lv_aload_n hx hb dX8_byteAt_1 rfl (lv_at hl 0 rfl) ?_
  refine va_get (D := D) (ci := 8) (v := .int (o0.1 0)) (C := RX8) (T := TX8) (N := 27) hx hb hts hinX8 hown hK.1 hP 0 rfl rfl 0 (by decide) lkf86 (fun _ h9 => h9) rfl dX8_byteAt_2 ?_
  refine lv_icmp_ge (tgt := 17) hx hb dX8_byteAt_5 (by decide) (fun hc => ?_) (fun hc => ?_)
  · have h := if_t hc h
    refine lv_iconst (v := (0 : Int32)) hx hb dX8_byteAt_17 (by decide) ?_
    cases h
    exact hend _ _ dX8_byteAt_18
  · have h := if_f hc h
    refine lv_aload_n hx hb dX8_byteAt_8 rfl (lv_at hl 0 rfl) ?_
    refine va_get (D := D) (ci := 8) (v := .ref (a0 2)) (C := RX8) (T := TX8) (N := 27) hx hb hts hinX8 hown hK.1 hP 0 rfl rfl 1 (by decide) lkf7 (fun _ h9 => h9) rfl dX8_byteAt_9 ?_
    refine lv_iload_n hx hb dX8_byteAt_12 rfl (lv_at hl 1 rfl) ?_
    obtain ⟨hi1, h⟩ := gd_some h
    refine iald (q0 := 0) (t0 := 0) (j := x1.toNatClampNeg) hx hb hK hP 1 rfl rfl (ck_in hi1) dX8_byteAt_13 ?_
    refine lv_goto (tgt := 18) hx hb dX8_byteAt_14 (by decide) ?_
    cases h
    exact hend _ _ dX8_byteAt_18
abbrev rmX8_figures : Room := ({ frames := 1, cells := 0, slots := 0, locals := 25 } : Room)
set_option maxHeartbeats 4000000 in
set_option maxRecDepth 100000 in
theorem c_X8_figures (l : Launch) (D : va_G) (cA : ClassId) (a0 : (Nat → Nat)) (o0 : Ob) (x1 : Int32) (r : Int32) (o0_ : Ob) (h : f_X8_figures o0 x1 = some (r, o0_)) : ConW l yX8_figures wsX8_figures rmX8_figures D cA [.ref (a0 0), .int x1] (wX8 cA a0 o0) r (wX8 cA a0 o0_) := by
  refine ConWZ.enter (cc := cX8_figures) (maxL := 5) (by decide) rfl (Nat.le_of_ble_eq_true rfl) ?_
  intro p e s m args below meth c Q A hx hb hml hown hts hK hP hD hA hend ls hl
  have hS : va_S A s.heap s.heap [] := va_S.rf
  have hl : lv_has ls 5 [(0, .ref (a0 0)), (1, .int x1)] := hl
  unfold f_X8_figures at h
  have lkf92 := hts (.fieldLink RX8 92 "TiedToTownModel" "place" "I") (List.mem_of_getElem? (i := 1) rfl)
  have hinX8 : ∀ w ∈ wsX80, w ∈ wsX8_figures := fun w h => List.mem_cons_of_mem _ (List.mem_append_right _ h)
  have lkc99 := hts (.constantLong RX8 99 (48)) (List.mem_of_getElem? (i := 2) rfl)
  have lkc101 := hts (.constantLong RX8 101 (57)) (List.mem_of_getElem? (i := 3) rfl)
  have lkc103 := hts (.constantLong RX8 103 (3)) (List.mem_of_getElem? (i := 4) rfl)
  have lkf58 := hts (.fieldLink RX8 58 "TiedToTownModel" "told" "[I") (List.mem_of_getElem? (i := 5) rfl)
  have LP12 : ∀ (x1 : Int32) (x2 : Int32) (n : Nat) (x3 : Int32) (x4 : Int32) (o0 : Ob) (H : Heap) (locs : List Loc) (_ : va_P D vwCl (wX8 cA a0 o0) H) (_ : va_D A (wX8 cA a0 o0)) (_ : va_S A s.heap H locs) (ls : Array Slot) (_ : lv_has ls 5 [(0, .ref (a0 0)), (1, .int x1), (2, .int x2), (3, .int x3), (4, .int x4)]) (res : Int32 × Int32 × Ob) (_ : L_X8_figures_12 x1 x2 n x3 x4 o0 = some res) (_ : (∀ (H : Heap) (locs : List Loc) (_ : va_P D vwCl (wX8 cA a0 res.2.2) H) (_ : va_D A (wX8 cA a0 res.2.2)) (_ : va_S A s.heap H locs) (ls : Array Slot), lv_has ls 5 [(0, .ref (a0 0)), (1, .int x1), (2, .int x2), (3, .int res.1), (4, .int res.2.1)] → W p l e rmX8_figures s m args below meth c H locs 0 0 Q (F0 m 73 ls []))), W p l e rmX8_figures s m args below meth c H locs 0 0 Q (F0 m 12 ls []) := by
    intro x1 x2 n
    induction n with
    | zero =>
      intro x3 x4 o0 H locs hP hD hS ls hl res h K0
      exact absurd h (fun q : (none : Option (Int32 × Int32 × Ob)) = some res => by cases q)
    | succ n ih =>
      intro x3 x4 o0 H locs hP hD hS ls hl res h K0
      have h : L_X8_figures_12_step x1 x2 (L_X8_figures_12 x1 x2 n) x3 x4 o0 = some res := h
      unfold L_X8_figures_12_step at h
      refine lv_aload_n hx hb dX8_figures_12 rfl (lv_at hl 0 rfl) ?_
      refine lv_aload_n hx hb dX8_figures_13 rfl (lv_at hl 0 rfl) ?_
      refine va_get (D := D) (ci := 8) (v := .int (o0.1 20)) (C := RX8) (T := TX8) (N := 27) hx hb hts hinX8 hown hK.1 hP 0 rfl rfl 20 (by decide) lkf92 (fun _ h9 => h9) rfl dX8_figures_14 ?_
      obtain ⟨z1, hz1, h⟩ := bd_some h
      refine cR_V (As := [.int (o0.1 20)]) (rest := []) ⟨hx, hb, hml, hown, hts⟩ (c_X8_byteAt l D cA a0 o0 (o0.1 20) z1 hz1) (cwV 1 hts gX8_figures_X8_byteAt rfl rfl rfl hd_X8_byteAt ⟨(Nat.le_of_ble_eq_true rfl), (Nat.le_of_ble_eq_true rfl)⟩) (recvK hK hP 0 8 rfl rfl) hK hP [0, 1, 2, 3, 4, 5, 6, 7, 8, 9, 10, 11, 12, 13, 14, 15, 16, 17, 18, 19, 20, 21, 22] rfl rfl hl.1 rfl (Nat.le_of_ble_eq_true rfl) dX8_figures_17 ⟨(Nat.le_of_ble_eq_true rfl), (Nat.le_of_ble_eq_true rfl)⟩ ?_
      refine lv_i2l hx hb dX8_figures_20 rfl ?_
      refine lv_ldc2 hx hb hown lkc99 dX8_figures_21 ?_
      refine lv_ldc2 hx hb hown lkc101 dX8_figures_24 ?_
      obtain ⟨z2, hz2, h⟩ := bd_some h
      refine cR_S (As := [.long z1.toInt64, .long (48 : Int64), .long (57 : Int64)]) (rest := []) ⟨hx, hb, hml, hown, hts⟩ (c_X8_in l D cA  z1.toInt64 (48 : Int64) (57 : Int64) z2 hz2) (va_cwS 3 hts gX8_figures_X8_in rfl rfl rfl hd_X8_in.2 ⟨(Nat.le_of_ble_eq_true rfl), (Nat.le_of_ble_eq_true rfl)⟩) hK hP [] rfl rfl hl.1 rfl (Nat.le_of_ble_eq_true rfl) dX8_figures_27 ⟨(Nat.le_of_ble_eq_true rfl), (Nat.le_of_ble_eq_true rfl)⟩ ?_
      refine lv_if_eq (tgt := 73) hx hb dX8_figures_30 (by decide) (fun hc => ?_) (fun hc => ?_)
      · have h := if_t hc h
        cases h
        exact K0 _ _ hP hD hS _ (lv_sub hl [0, 1, 2, 3, 4] rfl)
      · have h := if_f hc h
        refine lv_iload_n hx hb dX8_figures_33 rfl (lv_at hl 3 rfl) ?_
        refine lv_iconst (v := (4 : Int32)) hx hb dX8_figures_34 (by decide) ?_
        refine lv_icmp_ge (tgt := 73) hx hb dX8_figures_35 (by decide) (fun hc => ?_) (fun hc => ?_)
        · have h := if_t hc h
          cases h
          exact K0 _ _ hP hD hS _ (lv_sub hl [0, 1, 2, 3, 4] rfl)
        · have h := if_f hc h
          refine lv_bipush (v := (10 : Int32)) hx hb dX8_figures_38 (by decide) ?_
          refine lv_iload hx hb dX8_figures_40 (lv_at hl 4 rfl) ?_
          refine lv_imul hx hb dX8_figures_42 ?_
          refine lv_aload_n hx hb dX8_figures_43 rfl (lv_at hl 0 rfl) ?_
          refine lv_aload_n hx hb dX8_figures_44 rfl (lv_at hl 0 rfl) ?_
          refine va_get (D := D) (ci := 8) (v := .int (o0.1 20)) (C := RX8) (T := TX8) (N := 27) hx hb hts hinX8 hown hK.1 hP 0 rfl rfl 20 (by decide) lkf92 (fun _ h9 => h9) rfl dX8_figures_45 ?_
          obtain ⟨z3, hz3, h⟩ := bd_some h
          refine cR_V (As := [.int (o0.1 20)]) (rest := [.int ((10 : Int32) * x4)]) ⟨hx, hb, hml, hown, hts⟩ (c_X8_byteAt l D cA a0 o0 (o0.1 20) z3 hz3) (cwV 1 hts gX8_figures_X8_byteAt rfl rfl rfl hd_X8_byteAt ⟨(Nat.le_of_ble_eq_true rfl), (Nat.le_of_ble_eq_true rfl)⟩) (recvK hK hP 0 8 rfl rfl) hK hP [0, 1, 2, 3, 4, 5, 6, 7, 8, 9, 10, 11, 12, 13, 14, 15, 16, 17, 18, 19, 20, 21, 22] rfl rfl hl.1 rfl (Nat.le_of_ble_eq_true rfl) dX8_figures_48 ⟨(Nat.le_of_ble_eq_true rfl), (Nat.le_of_ble_eq_true rfl)⟩ ?_
          refine lv_iadd hx hb dX8_figures_51 ?_
          refine lv_bipush (v := (48 : Int32)) hx hb dX8_figures_52 (by decide) ?_
          refine lv_isub hx hb dX8_figures_54 ?_
          refine lv_topi (fun v4 ev4 => ?_)
          have h := nm_ap ev4 h
          refine lv_istore (lv' := [(4, .int v4), (0, .ref (a0 0)), (1, .int x1), (2, .int x2), (3, .int x3)]) hx hb dX8_figures_55 hl (by decide) rfl (fun ls hl => ?_)
          obtain ⟨v5, ev5⟩ : ∃ y : Int32, y = x3 + (1 : Int32) := ⟨_, rfl⟩
          refine lv_iinc (v := v5) (lv' := [(3, .int v5), (4, .int v4), (0, .ref (a0 0)), (1, .int x1), (2, .int x2)]) hx hb dX8_figures_57 hl (k := 4) rfl (by rw [ev5]; rfl) (by decide) rfl (fun ls hl => ?_)
          have h := nm_ap ev5 h
          refine lv_aload_n hx hb dX8_figures_60 rfl (lv_at hl 2 rfl) ?_
          refine lv_dup hx hb dX8_figures_61 rfl ?_
          refine va_get (D := D) (ci := 8) (v := .int (o0.1 20)) (C := RX8) (T := TX8) (N := 27) hx hb hts hinX8 hown hK.1 hP 0 rfl rfl 20 (by decide) lkf92 (fun _ h9 => h9) rfl dX8_figures_62 ?_
          refine lv_iconst (v := (1 : Int32)) hx hb dX8_figures_65 (by decide) ?_
          refine lv_iadd hx hb dX8_figures_66 ?_
          refine va_put (D := D) (ci := 8) (v := .int ((o0.1 20) + (1 : Int32))) (ty := .int) (C := RX8) (T := TX8) (N := 27) hx hb hts hinX8 tyX8 tyX8_ok nmX8 hown hK.1 hP hD hS 0 rfl rfl 20 (by decide) lkf92 (fun _ h9 => h9) rfl (by decide +kernel) rfl rfl (Nat.le_of_ble_eq_true rfl) dX8_figures_67 (fun H locs hP hD hS => ?_)
          have hP : va_P D vwCl (wX8 cA a0 (sF o0 20 ((o0.1 20) + (1 : Int32)))) H := hP
          have hD : va_D A (wX8 cA a0 (sF o0 20 ((o0.1 20) + (1 : Int32)))) := hD
          obtain ⟨s6, es6⟩ : ∃ z, z = sF o0 20 ((o0.1 20) + (1 : Int32)) := ⟨_, rfl⟩
          rw [← es6] at hP hD
          have h := nm_ap es6 h
          refine lv_goto (tgt := 12) hx hb dX8_figures_70 (by decide) ?_
          exact ih v5 v4 s6 _ _ hP hD hS ls (lv_sub hl [2, 3, 4, 0, 1] rfl) _ h K0
  have LP2 : ∀ (x1 : Int32) (n : Nat) (x2 : Int32) (o0 : Ob) (H : Heap) (locs : List Loc) (_ : va_P D vwCl (wX8 cA a0 o0) H) (_ : va_D A (wX8 cA a0 o0)) (_ : va_S A s.heap H locs) (ls : Array Slot) (_ : lv_has ls 5 [(0, .ref (a0 0)), (1, .int x1), (2, .int x2)]) (res : Nat × Ob) (_ : L_X8_figures_2 x1 n x2 o0 = some res) (_ : (∀ (H : Heap) (locs : List Loc) (_ : va_P D vwCl (wX8 cA a0 res.2) H) (_ : va_D A (wX8 cA a0 res.2)) (_ : va_S A s.heap H locs) (ls : Array Slot), lv_has ls 5 [] → res.1 = 0 → W p l e rmX8_figures s m args below meth c H locs 0 0 Q (F0 m 110 ls []))) (_ : (∀ (H : Heap) (locs : List Loc) (_ : va_P D vwCl (wX8 cA a0 res.2) H) (_ : va_D A (wX8 cA a0 res.2)) (_ : va_S A s.heap H locs) (ls : Array Slot), lv_has ls 5 [] → res.1 = 1 → W p l e rmX8_figures s m args below meth c H locs 0 0 Q (F0 m 136 ls []))), W p l e rmX8_figures s m args below meth c H locs 0 0 Q (F0 m 2 ls []) := by
    intro x1 n
    induction n with
    | zero =>
      intro x2 o0 H locs hP hD hS ls hl res h K0 K1
      exact absurd h (fun q : (none : Option (Nat × Ob)) = some res => by cases q)
    | succ n ih =>
      intro x2 o0 H locs hP hD hS ls hl res h K0 K1
      have h : L_X8_figures_2_step x1 (L_X8_figures_2 x1 n) x2 o0 = some res := h
      unfold L_X8_figures_2_step at h
      have JP2_107 : ∀ (k0 : Int32) (k1 : Int32) (x2 : Int32) (x4 : Int32) (o0 : Ob) (H : Heap) (locs : List Loc) (_ : va_P D vwCl (wX8 cA a0 o0) H) (_ : va_D A (wX8 cA a0 o0)) (_ : va_S A s.heap H locs) (ls : Array Slot) (_ : lv_has ls 5 [(0, .ref (a0 0)), (1, .int x1), (2, .int x2), (4, .int x4)]) (_ : J_X8_figures_107l2 (L_X8_figures_2 x1 n) k0 k1 x1 x2 x4 o0 = some res), W p l e rmX8_figures s m args below meth c H locs 0 0 Q (F0 m 107 ls [.int k1, .int k0]) := by
        intro k0 k1 x2 x4 o0 H locs hP hD hS ls hl h
        unfold J_X8_figures_107l2 at h
        refine lv_icmp_eq (tgt := 112) hx hb dX8_figures_107 (by decide) (fun hc => ?_) (fun hc => ?_)
        · have h := if_t hc h
          refine lv_aload_n hx hb dX8_figures_112 rfl (lv_at hl 0 rfl) ?_
          refine va_get (D := D) (ci := 8) (v := .ref (a0 22)) (C := RX8) (T := TX8) (N := 27) hx hb hts hinX8 hown hK.1 hP 0 rfl rfl 21 (by decide) lkf58 (fun _ h9 => h9) rfl dX8_figures_113 ?_
          refine lv_iload_n hx hb dX8_figures_116 rfl (lv_at hl 2 rfl) ?_
          refine lv_iload hx hb dX8_figures_117 (lv_at hl 3 rfl) ?_
          obtain ⟨hi1, h⟩ := gd_some h
          refine iast (j := x2.toNatClampNeg) (wn := (wX8 cA a0 (sA o0 21 x2.toNatClampNeg x4))) hx hb hK hP hD hS 17 rfl rfl (ck_in hi1) dX8_figures_119 rfl (fun H locs hP hD hS => ?_)
          obtain ⟨s2, es2⟩ : ∃ z, z = sA o0 21 x2.toNatClampNeg x4 := ⟨_, rfl⟩
          rw [← es2] at hP hD
          have h := nm_ap es2 h
          refine lv_aload_n hx hb dX8_figures_120 rfl (lv_at hl 0 rfl) ?_
          refine lv_dup hx hb dX8_figures_121 rfl ?_
          refine va_get (D := D) (ci := 8) (v := .int (s2.1 20)) (C := RX8) (T := TX8) (N := 27) hx hb hts hinX8 hown hK.1 hP 0 rfl rfl 20 (by decide) lkf92 (fun _ h9 => h9) rfl dX8_figures_122 ?_
          refine lv_iconst (v := (1 : Int32)) hx hb dX8_figures_125 (by decide) ?_
          refine lv_iadd hx hb dX8_figures_126 ?_
          refine va_put (D := D) (ci := 8) (v := .int ((s2.1 20) + (1 : Int32))) (ty := .int) (C := RX8) (T := TX8) (N := 27) hx hb hts hinX8 tyX8 tyX8_ok nmX8 hown hK.1 hP hD hS 0 rfl rfl 20 (by decide) lkf92 (fun _ h9 => h9) rfl (by decide +kernel) rfl rfl (Nat.le_of_ble_eq_true rfl) dX8_figures_127 (fun H locs hP hD hS => ?_)
          have hP : va_P D vwCl (wX8 cA a0 (sF s2 20 ((s2.1 20) + (1 : Int32)))) H := hP
          have hD : va_D A (wX8 cA a0 (sF s2 20 ((s2.1 20) + (1 : Int32)))) := hD
          obtain ⟨s3, es3⟩ : ∃ z, z = sF s2 20 ((s2.1 20) + (1 : Int32)) := ⟨_, rfl⟩
          rw [← es3] at hP hD
          have h := nm_ap es3 h
          obtain ⟨v4, ev4⟩ : ∃ y : Int32, y = x2 + (1 : Int32) := ⟨_, rfl⟩
          refine lv_iinc (v := v4) (lv' := [(2, .int v4), (0, .ref (a0 0)), (1, .int x1), (4, .int x4)]) hx hb dX8_figures_130 hl (k := 2) rfl (by rw [ev4]; rfl) (by decide) rfl (fun ls hl => ?_)
          have h := nm_ap ev4 h
          refine lv_goto (tgt := 2) hx hb dX8_figures_133 (by decide) ?_
          exact ih v4 s3 _ _ hP hD hS ls (lv_sub hl [1, 2, 0] rfl) _ h K0 K1
        · have h := if_f hc h
          cases h
          exact K0 _ _ hP hD hS _ (lv_sub hl [] rfl) rfl
      refine lv_iload_n hx hb dX8_figures_2 rfl (lv_at hl 2 rfl) ?_
      refine lv_iload_n hx hb dX8_figures_3 rfl (lv_at hl 1 rfl) ?_
      refine lv_icmp_ge (tgt := 136) hx hb dX8_figures_4 (by decide) (fun hc => ?_) (fun hc => ?_)
      · have h := if_t hc h
        cases h
        exact K1 _ _ hP hD hS _ (lv_sub hl [] rfl) rfl
      · have h := if_f hc h
        refine lv_iconst (v := (0 : Int32)) hx hb dX8_figures_7 (by decide) ?_
        refine lv_istore_n (lv' := [(3, .int (0 : Int32)), (0, .ref (a0 0)), (1, .int x1), (2, .int x2)]) hx hb dX8_figures_8 rfl hl (by decide) rfl (fun ls hl => ?_)
        refine lv_iconst (v := (0 : Int32)) hx hb dX8_figures_9 (by decide) ?_
        refine lv_istore (lv' := [(4, .int (0 : Int32)), (3, .int (0 : Int32)), (0, .ref (a0 0)), (1, .int x1), (2, .int x2)]) hx hb dX8_figures_10 hl (by decide) rfl (fun ls hl => ?_)
        obtain ⟨z1, hz1, h⟩ := bd_some h
        refine LP12 x1 x2 512 (0 : Int32) (0 : Int32) o0 _ _ hP hD hS ls (lv_sub hl [2, 3, 4, 1, 0] rfl) _ hz1 ?_
        · intro H locs hP hD hS ls hl
          refine lv_iload_n hx hb dX8_figures_73 rfl (lv_at hl 3 rfl) ?_
          refine lv_i2l hx hb dX8_figures_74 rfl ?_
          refine lv_lconst (v := (1 : Int64)) hx hb dX8_figures_75 (by decide) ?_
          refine lv_ldc2 hx hb hown lkc103 dX8_figures_76 ?_
          obtain ⟨z2, hz2, h⟩ := bd_some h
          refine cR_S (As := [.long z1.1.toInt64, .long (1 : Int64), .long (3 : Int64)]) (rest := []) ⟨hx, hb, hml, hown, hts⟩ (c_X8_in l D cA  z1.1.toInt64 (1 : Int64) (3 : Int64) z2 hz2) (va_cwS 3 hts gX8_figures_X8_in rfl rfl rfl hd_X8_in.2 ⟨(Nat.le_of_ble_eq_true rfl), (Nat.le_of_ble_eq_true rfl)⟩) hK hP [] rfl rfl hl.1 rfl (Nat.le_of_ble_eq_true rfl) dX8_figures_79 ⟨(Nat.le_of_ble_eq_true rfl), (Nat.le_of_ble_eq_true rfl)⟩ ?_
          refine lv_if_eq (tgt := 110) hx hb dX8_figures_82 (by decide) (fun hc => ?_) (fun hc => ?_)
          · have h := if_t hc h
            cases h
            exact K0 _ _ hP hD hS _ (lv_sub hl [] rfl) rfl
          · have h := if_f hc h
            refine lv_aload_n hx hb dX8_figures_85 rfl (lv_at hl 0 rfl) ?_
            refine lv_aload_n hx hb dX8_figures_86 rfl (lv_at hl 0 rfl) ?_
            refine va_get (D := D) (ci := 8) (v := .int (z1.2.2.1 20)) (C := RX8) (T := TX8) (N := 27) hx hb hts hinX8 hown hK.1 hP 0 rfl rfl 20 (by decide) lkf92 (fun _ h9 => h9) rfl dX8_figures_87 ?_
            obtain ⟨z3, hz3, h⟩ := bd_some h
            refine cR_V (As := [.int (z1.2.2.1 20)]) (rest := []) ⟨hx, hb, hml, hown, hts⟩ (c_X8_byteAt l D cA a0 z1.2.2 (z1.2.2.1 20) z3 hz3) (cwV 1 hts gX8_figures_X8_byteAt rfl rfl rfl hd_X8_byteAt ⟨(Nat.le_of_ble_eq_true rfl), (Nat.le_of_ble_eq_true rfl)⟩) (recvK hK hP 0 8 rfl rfl) hK hP [0, 1, 2, 3, 4, 5, 6, 7, 8, 9, 10, 11, 12, 13, 14, 15, 16, 17, 18, 19, 20, 21, 22] rfl rfl hl.1 rfl (Nat.le_of_ble_eq_true rfl) dX8_figures_90 ⟨(Nat.le_of_ble_eq_true rfl), (Nat.le_of_ble_eq_true rfl)⟩ ?_
            refine lv_iload_n hx hb dX8_figures_93 rfl (lv_at hl 2 rfl) ?_
            refine lv_iload_n hx hb dX8_figures_94 rfl (lv_at hl 1 rfl) ?_
            refine lv_iconst (v := (1 : Int32)) hx hb dX8_figures_95 (by decide) ?_
            refine lv_isub hx hb dX8_figures_96 ?_
            refine lv_icmp_ge (tgt := 105) hx hb dX8_figures_97 (by decide) (fun hc => ?_) (fun hc => ?_)
            · have h := if_t hc h
              refine lv_bipush (v := (59 : Int32)) hx hb dX8_figures_105 (by decide) ?_
              exact JP2_107 z3 (59 : Int32) x2 z1.2.1 z1.2.2 _ _ hP hD hS ls (lv_sub hl [0, 1, 2, 4] rfl) h
            · have h := if_f hc h
              refine lv_bipush (v := (44 : Int32)) hx hb dX8_figures_100 (by decide) ?_
              refine lv_goto (tgt := 107) hx hb dX8_figures_102 (by decide) ?_
              exact JP2_107 z3 (44 : Int32) x2 z1.2.1 z1.2.2 _ _ hP hD hS ls (lv_sub hl [0, 1, 2, 4] rfl) h
  refine lv_iconst (v := (0 : Int32)) hx hb dX8_figures_0 (by decide) ?_
  refine lv_istore_n (lv' := [(2, .int (0 : Int32)), (0, .ref (a0 0)), (1, .int x1)]) hx hb dX8_figures_1 rfl hl (by decide) rfl (fun ls hl => ?_)
  obtain ⟨z1, hz1, h⟩ := bd_some h
  refine LP2 x1 512 (0 : Int32) o0 _ _ hP hD hS ls (lv_sub hl [1, 2, 0] rfl) _ hz1 ?_ ?_
  · intro H locs hP hD hS ls hl hi
    have h := if_t hi h
    refine lv_iconst (v := (0 : Int32)) hx hb dX8_figures_110 (by decide) ?_
    cases h
    exact hend _ _ _ _ (by decide) hP hD hS dX8_figures_111
  · intro H locs hP hD hS ls hl hi
    have h := if_f (by rw [hi]; decide) h
    refine lv_iconst (v := (1 : Int32)) hx hb dX8_figures_136 (by decide) ?_
    cases h
    exact hend _ _ _ _ (by decide) hP hD hS dX8_figures_137
abbrev rmX8_isKnot : Room := ({ frames := 1, cells := 0, slots := 0, locals := 25 } : Room)
set_option maxHeartbeats 4000000 in
set_option maxRecDepth 100000 in
theorem c_X8_isKnot (l : Launch) (D : va_G) (cA : ClassId) (a0 : (Nat → Nat)) (o0 : Ob) (x1 : Int32) (x2 : Int32) (x3 : Int32) (x4 : Int32) (x5 : Int32) (x6 : Int32) (r : Int32) (h : f_X8_isKnot o0 x1 x2 x3 x4 x5 x6 = some r) : ConR l yX8_isKnot wsX8_isKnot rmX8_isKnot D cA [.ref (a0 0), .int x1, .int x2, .int x3, .int x4, .int x5, .int x6] (wX8 cA a0 o0) r := by
  refine ConZ.enter (cc := cX8_isKnot) (maxL := 7) (by decide) rfl (Nat.le_of_ble_eq_true rfl) ?_
  intro p e s m args below meth c Q hx hb hml hown hts hK hP  hend ls hl
  have hl : lv_has ls 7 [(0, .ref (a0 0)), (1, .int x1), (2, .int x2), (3, .int x3), (4, .int x4), (5, .int x5), (6, .int x6)] := hl
  unfold f_X8_isKnot at h
  have lkf13 := hts (.fieldLink RX8 13 "TiedToTownModel" "personMany" "[I") (List.mem_of_getElem? (i := 1) rfl)
  have hinX8 : ∀ w ∈ wsX80, w ∈ wsX8_isKnot := fun w h => List.mem_cons_of_mem _ (List.mem_append_right _ h)
  have lkf22 := hts (.fieldLink RX8 22 "TiedToTownModel" "many" "[I") (List.mem_of_getElem? (i := 2) rfl)
  have lkc105 := hts (.constantLong RX8 105 (99)) (List.mem_of_getElem? (i := 3) rfl)
  have lkc103 := hts (.constantLong RX8 103 (3)) (List.mem_of_getElem? (i := 4) rfl)
  refine lv_iload_n hx hb dX8_isKnot_0 rfl (lv_at hl 2 rfl) ?_
  refine lv_i2l hx hb dX8_isKnot_1 rfl ?_
  refine lv_lconst (v := (0 : Int64)) hx hb dX8_isKnot_2 (by decide) ?_
  refine lv_aload_n hx hb dX8_isKnot_3 rfl (lv_at hl 0 rfl) ?_
  refine va_get (D := D) (ci := 8) (v := .ref (a0 3)) (C := RX8) (T := TX8) (N := 27) hx hb hts hinX8 hown hK.1 hP 0 rfl rfl 2 (by decide) lkf13 (fun _ h9 => h9) rfl dX8_isKnot_4 ?_
  refine lv_iload_n hx hb dX8_isKnot_7 rfl (lv_at hl 1 rfl) ?_
  obtain ⟨hi1, h⟩ := gd_some h
  refine iald (q0 := 0) (t0 := 0) (j := x1.toNatClampNeg) hx hb hK hP 2 rfl rfl (ck_in hi1) dX8_isKnot_8 ?_
  refine lv_iconst (v := (1 : Int32)) hx hb dX8_isKnot_9 (by decide) ?_
  refine lv_isub hx hb dX8_isKnot_10 ?_
  refine lv_i2l hx hb dX8_isKnot_11 rfl ?_
  obtain ⟨z2, hz2, h⟩ := bd_some h
  refine cR_S (As := [.long x2.toInt64, .long (0 : Int64), .long (((o0.2 2 x1.toNatClampNeg) - (1 : Int32)).toInt64)]) (rest := []) ⟨hx, hb, hml, hown, hts⟩ (c_X8_in l D cA  x2.toInt64 (0 : Int64) (((o0.2 2 x1.toNatClampNeg) - (1 : Int32)).toInt64) z2 hz2) (va_cwS 3 hts gX8_isKnot_X8_in rfl rfl rfl hd_X8_in.2 ⟨(Nat.le_of_ble_eq_true rfl), (Nat.le_of_ble_eq_true rfl)⟩) hK hP [] rfl rfl hl.1 rfl (Nat.le_of_ble_eq_true rfl) dX8_isKnot_12 ⟨(Nat.le_of_ble_eq_true rfl), (Nat.le_of_ble_eq_true rfl)⟩ ?_
  refine lv_if_eq (tgt := 92) hx hb dX8_isKnot_15 (by decide) (fun hc => ?_) (fun hc => ?_)
  · have h := if_t hc h
    refine lv_iconst (v := (0 : Int32)) hx hb dX8_isKnot_92 (by decide) ?_
    cases h
    exact hend _ _ (by decide) dX8_isKnot_93
  · have h := if_f hc h
    refine lv_iload_n hx hb dX8_isKnot_18 rfl (lv_at hl 3 rfl) ?_
    refine lv_i2l hx hb dX8_isKnot_19 rfl ?_
    refine lv_lconst (v := (0 : Int64)) hx hb dX8_isKnot_20 (by decide) ?_
    refine lv_aload_n hx hb dX8_isKnot_21 rfl (lv_at hl 0 rfl) ?_
    refine va_get (D := D) (ci := 8) (v := .ref (a0 3)) (C := RX8) (T := TX8) (N := 27) hx hb hts hinX8 hown hK.1 hP 0 rfl rfl 2 (by decide) lkf13 (fun _ h9 => h9) rfl dX8_isKnot_22 ?_
    refine lv_iload_n hx hb dX8_isKnot_25 rfl (lv_at hl 1 rfl) ?_
    refine iald (q0 := 0) (t0 := 0) (j := x1.toNatClampNeg) hx hb hK hP 2 rfl rfl (ck_in hi1) dX8_isKnot_26 ?_
    refine lv_iconst (v := (1 : Int32)) hx hb dX8_isKnot_27 (by decide) ?_
    refine lv_isub hx hb dX8_isKnot_28 ?_
    refine lv_i2l hx hb dX8_isKnot_29 rfl ?_
    obtain ⟨z3, hz3, h⟩ := bd_some h
    refine cR_S (As := [.long x3.toInt64, .long (0 : Int64), .long (((o0.2 2 x1.toNatClampNeg) - (1 : Int32)).toInt64)]) (rest := []) ⟨hx, hb, hml, hown, hts⟩ (c_X8_in l D cA  x3.toInt64 (0 : Int64) (((o0.2 2 x1.toNatClampNeg) - (1 : Int32)).toInt64) z3 hz3) (va_cwS 3 hts gX8_isKnot_X8_in rfl rfl rfl hd_X8_in.2 ⟨(Nat.le_of_ble_eq_true rfl), (Nat.le_of_ble_eq_true rfl)⟩) hK hP [] rfl rfl hl.1 rfl (Nat.le_of_ble_eq_true rfl) dX8_isKnot_30 ⟨(Nat.le_of_ble_eq_true rfl), (Nat.le_of_ble_eq_true rfl)⟩ ?_
    refine lv_if_eq (tgt := 92) hx hb dX8_isKnot_33 (by decide) (fun hc => ?_) (fun hc => ?_)
    · have h := if_t hc h
      refine lv_iconst (v := (0 : Int32)) hx hb dX8_isKnot_92 (by decide) ?_
      cases h
      exact hend _ _ (by decide) dX8_isKnot_93
    · have h := if_f hc h
      refine lv_iload_n hx hb dX8_isKnot_36 rfl (lv_at hl 2 rfl) ?_
      refine lv_iload_n hx hb dX8_isKnot_37 rfl (lv_at hl 3 rfl) ?_
      refine lv_icmp_eq (tgt := 92) hx hb dX8_isKnot_38 (by decide) (fun hc => ?_) (fun hc => ?_)
      · have h := if_t hc h
        refine lv_iconst (v := (0 : Int32)) hx hb dX8_isKnot_92 (by decide) ?_
        cases h
        exact hend _ _ (by decide) dX8_isKnot_93
      · have h := if_f hc h
        refine lv_iload hx hb dX8_isKnot_41 (lv_at hl 4 rfl) ?_
        refine lv_i2l hx hb dX8_isKnot_43 rfl ?_
        refine lv_lconst (v := (0 : Int64)) hx hb dX8_isKnot_44 (by decide) ?_
        refine lv_iconst (v := (1 : Int32)) hx hb dX8_isKnot_45 (by decide) ?_
        refine lv_aload_n hx hb dX8_isKnot_46 rfl (lv_at hl 0 rfl) ?_
        refine va_get (D := D) (ci := 8) (v := .ref (a0 6)) (C := RX8) (T := TX8) (N := 27) hx hb hts hinX8 hown hK.1 hP 0 rfl rfl 5 (by decide) lkf22 (fun _ h9 => h9) rfl dX8_isKnot_47 ?_
        refine lv_iload_n hx hb dX8_isKnot_50 rfl (lv_at hl 1 rfl) ?_
        obtain ⟨hi4, h⟩ := gd_some h
        refine iald (q0 := 0) (t0 := 0) (j := x1.toNatClampNeg) hx hb hK hP 5 rfl rfl (ck_in hi4) dX8_isKnot_51 ?_
        refine lv_ishl hx hb dX8_isKnot_52 ?_
        refine lv_iconst (v := (1 : Int32)) hx hb dX8_isKnot_53 (by decide) ?_
        refine lv_isub hx hb dX8_isKnot_54 ?_
        refine lv_i2l hx hb dX8_isKnot_55 rfl ?_
        obtain ⟨z5, hz5, h⟩ := bd_some h
        refine cR_S (As := [.long x4.toInt64, .long (0 : Int64), .long ((((1 : Int32) <<< ((o0.2 5 x1.toNatClampNeg) &&& 31)) - (1 : Int32)).toInt64)]) (rest := []) ⟨hx, hb, hml, hown, hts⟩ (c_X8_in l D cA  x4.toInt64 (0 : Int64) ((((1 : Int32) <<< ((o0.2 5 x1.toNatClampNeg) &&& 31)) - (1 : Int32)).toInt64) z5 hz5) (va_cwS 3 hts gX8_isKnot_X8_in rfl rfl rfl hd_X8_in.2 ⟨(Nat.le_of_ble_eq_true rfl), (Nat.le_of_ble_eq_true rfl)⟩) hK hP [] rfl rfl hl.1 rfl (Nat.le_of_ble_eq_true rfl) dX8_isKnot_56 ⟨(Nat.le_of_ble_eq_true rfl), (Nat.le_of_ble_eq_true rfl)⟩ ?_
        refine lv_if_eq (tgt := 92) hx hb dX8_isKnot_59 (by decide) (fun hc => ?_) (fun hc => ?_)
        · have h := if_t hc h
          refine lv_iconst (v := (0 : Int32)) hx hb dX8_isKnot_92 (by decide) ?_
          cases h
          exact hend _ _ (by decide) dX8_isKnot_93
        · have h := if_f hc h
          refine lv_iload hx hb dX8_isKnot_62 (lv_at hl 5 rfl) ?_
          refine lv_i2l hx hb dX8_isKnot_64 rfl ?_
          refine lv_lconst (v := (0 : Int64)) hx hb dX8_isKnot_65 (by decide) ?_
          refine lv_ldc2 hx hb hown lkc105 dX8_isKnot_66 ?_
          obtain ⟨z6, hz6, h⟩ := bd_some h
          refine cR_S (As := [.long x5.toInt64, .long (0 : Int64), .long (99 : Int64)]) (rest := []) ⟨hx, hb, hml, hown, hts⟩ (c_X8_in l D cA  x5.toInt64 (0 : Int64) (99 : Int64) z6 hz6) (va_cwS 3 hts gX8_isKnot_X8_in rfl rfl rfl hd_X8_in.2 ⟨(Nat.le_of_ble_eq_true rfl), (Nat.le_of_ble_eq_true rfl)⟩) hK hP [] rfl rfl hl.1 rfl (Nat.le_of_ble_eq_true rfl) dX8_isKnot_69 ⟨(Nat.le_of_ble_eq_true rfl), (Nat.le_of_ble_eq_true rfl)⟩ ?_
          refine lv_if_eq (tgt := 92) hx hb dX8_isKnot_72 (by decide) (fun hc => ?_) (fun hc => ?_)
          · have h := if_t hc h
            refine lv_iconst (v := (0 : Int32)) hx hb dX8_isKnot_92 (by decide) ?_
            cases h
            exact hend _ _ (by decide) dX8_isKnot_93
          · have h := if_f hc h
            refine lv_iload hx hb dX8_isKnot_75 (lv_at hl 6 rfl) ?_
            refine lv_i2l hx hb dX8_isKnot_77 rfl ?_
            refine lv_lconst (v := (0 : Int64)) hx hb dX8_isKnot_78 (by decide) ?_
            refine lv_ldc2 hx hb hown lkc103 dX8_isKnot_79 ?_
            obtain ⟨z7, hz7, h⟩ := bd_some h
            refine cR_S (As := [.long x6.toInt64, .long (0 : Int64), .long (3 : Int64)]) (rest := []) ⟨hx, hb, hml, hown, hts⟩ (c_X8_in l D cA  x6.toInt64 (0 : Int64) (3 : Int64) z7 hz7) (va_cwS 3 hts gX8_isKnot_X8_in rfl rfl rfl hd_X8_in.2 ⟨(Nat.le_of_ble_eq_true rfl), (Nat.le_of_ble_eq_true rfl)⟩) hK hP [] rfl rfl hl.1 rfl (Nat.le_of_ble_eq_true rfl) dX8_isKnot_82 ⟨(Nat.le_of_ble_eq_true rfl), (Nat.le_of_ble_eq_true rfl)⟩ ?_
            refine lv_if_eq (tgt := 92) hx hb dX8_isKnot_85 (by decide) (fun hc => ?_) (fun hc => ?_)
            · have h := if_t hc h
              refine lv_iconst (v := (0 : Int32)) hx hb dX8_isKnot_92 (by decide) ?_
              cases h
              exact hend _ _ (by decide) dX8_isKnot_93
            · have h := if_f hc h
              refine lv_iconst (v := (1 : Int32)) hx hb dX8_isKnot_88 (by decide) ?_
              refine lv_goto (tgt := 93) hx hb dX8_isKnot_89 (by decide) ?_
              cases h
              exact hend _ _ (by decide) dX8_isKnot_93
abbrev rmX8_addKnot : Room := ({ frames := 0, cells := 0, slots := 0, locals := 0 } : Room)
set_option maxHeartbeats 4000000 in
set_option maxRecDepth 100000 in
theorem c_X8_addKnot (l : Launch) (D : va_G) (cA : ClassId) (a0 : (Nat → Nat)) (o0 : Ob) (x1 : Int32) (x2 : Int32) (x3 : Int32) (x4 : Int32) (x5 : Int32) (x6 : Int32) (o0_ : Ob) (h : f_X8_addKnot o0 x1 x2 x3 x4 x5 x6 = some o0_) : ConV l yX8_addKnot wsX8_addKnot rmX8_addKnot D cA [.ref (a0 0), .int x1, .int x2, .int x3, .int x4, .int x5, .int x6] (wX8 cA a0 o0) (wX8 cA a0 o0_) := by
  refine ConV.enter (cc := cX8_addKnot) (maxL := 8) (by decide) rfl (Nat.le_of_ble_eq_true rfl) ?_
  intro p e s m args below meth c Q A hx hb hml hown hts hK hP hD hA hend ls hl
  have hS : va_S A s.heap s.heap [] := va_S.rf
  have hl : lv_has ls 8 [(0, .ref (a0 0)), (1, .int x1), (2, .int x2), (3, .int x3), (4, .int x4), (5, .int x5), (6, .int x6)] := hl
  unfold f_X8_addKnot at h
  have lkf22 := hts (.fieldLink RX8 22 "TiedToTownModel" "many" "[I") (List.mem_of_getElem? (i := 1) rfl)
  have hinX8 : ∀ w ∈ wsX80, w ∈ wsX8_addKnot := fun w h => List.mem_cons_of_mem _ (List.mem_append_right _ h)
  have lkf25 := hts (.fieldLink RX8 25 "TiedToTownModel" "ones" "[I") (List.mem_of_getElem? (i := 2) rfl)
  have lkf28 := hts (.fieldLink RX8 28 "TiedToTownModel" "others" "[I") (List.mem_of_getElem? (i := 3) rfl)
  have lkf31 := hts (.fieldLink RX8 31 "TiedToTownModel" "through" "[I") (List.mem_of_getElem? (i := 4) rfl)
  have lkf34 := hts (.fieldLink RX8 34 "TiedToTownModel" "due" "[I") (List.mem_of_getElem? (i := 5) rfl)
  have lkf37 := hts (.fieldLink RX8 37 "TiedToTownModel" "kinds" "[I") (List.mem_of_getElem? (i := 6) rfl)
  have lkf40 := hts (.fieldLink RX8 40 "TiedToTownModel" "tied" "[I") (List.mem_of_getElem? (i := 7) rfl)
  refine lv_bipush (v := (8 : Int32)) hx hb dX8_addKnot_0 (by decide) ?_
  refine lv_iload_n hx hb dX8_addKnot_2 rfl (lv_at hl 1 rfl) ?_
  refine lv_imul hx hb dX8_addKnot_3 ?_
  refine lv_aload_n hx hb dX8_addKnot_4 rfl (lv_at hl 0 rfl) ?_
  refine va_get (D := D) (ci := 8) (v := .ref (a0 6)) (C := RX8) (T := TX8) (N := 27) hx hb hts hinX8 hown hK.1 hP 0 rfl rfl 5 (by decide) lkf22 (fun _ h9 => h9) rfl dX8_addKnot_5 ?_
  refine lv_iload_n hx hb dX8_addKnot_8 rfl (lv_at hl 1 rfl) ?_
  obtain ⟨hi1, h⟩ := gd_some h
  refine iald (q0 := 0) (t0 := 0) (j := x1.toNatClampNeg) hx hb hK hP 5 rfl rfl (ck_in hi1) dX8_addKnot_9 ?_
  refine lv_iadd hx hb dX8_addKnot_10 ?_
  refine lv_topi (fun v2 ev2 => ?_)
  have h := nm_ap ev2 h
  refine lv_istore (lv' := [(7, .int v2), (0, .ref (a0 0)), (1, .int x1), (2, .int x2), (3, .int x3), (4, .int x4), (5, .int x5), (6, .int x6)]) hx hb dX8_addKnot_11 hl (by decide) rfl (fun ls hl => ?_)
  refine lv_aload_n hx hb dX8_addKnot_13 rfl (lv_at hl 1 rfl) ?_
  refine va_get (D := D) (ci := 8) (v := .ref (a0 7)) (C := RX8) (T := TX8) (N := 27) hx hb hts hinX8 hown hK.1 hP 0 rfl rfl 6 (by decide) lkf25 (fun _ h9 => h9) rfl dX8_addKnot_14 ?_
  refine lv_iload hx hb dX8_addKnot_17 (lv_at hl 0 rfl) ?_
  refine lv_iload_n hx hb dX8_addKnot_19 rfl (lv_at hl 3 rfl) ?_
  obtain ⟨hi3, h⟩ := gd_some h
  refine iast (j := v2.toNatClampNeg) (wn := (wX8 cA a0 (sA o0 6 v2.toNatClampNeg x2))) hx hb hK hP hD hS 6 rfl rfl (ck_in hi3) dX8_addKnot_20 rfl (fun H locs hP hD hS => ?_)
  obtain ⟨s4, es4⟩ : ∃ z, z = sA o0 6 v2.toNatClampNeg x2 := ⟨_, rfl⟩
  rw [← es4] at hP hD
  have h := nm_ap es4 h
  refine lv_aload_n hx hb dX8_addKnot_21 rfl (lv_at hl 1 rfl) ?_
  refine va_get (D := D) (ci := 8) (v := .ref (a0 8)) (C := RX8) (T := TX8) (N := 27) hx hb hts hinX8 hown hK.1 hP 0 rfl rfl 7 (by decide) lkf28 (fun _ h9 => h9) rfl dX8_addKnot_22 ?_
  refine lv_iload hx hb dX8_addKnot_25 (lv_at hl 0 rfl) ?_
  refine lv_iload_n hx hb dX8_addKnot_27 rfl (lv_at hl 4 rfl) ?_
  refine iast (j := v2.toNatClampNeg) (wn := (wX8 cA a0 (sA s4 7 v2.toNatClampNeg x3))) hx hb hK hP hD hS 7 rfl rfl (ck_in hi3) dX8_addKnot_28 rfl (fun H locs hP hD hS => ?_)
  obtain ⟨s5, es5⟩ : ∃ z, z = sA s4 7 v2.toNatClampNeg x3 := ⟨_, rfl⟩
  rw [← es5] at hP hD
  have h := nm_ap es5 h
  refine lv_aload_n hx hb dX8_addKnot_29 rfl (lv_at hl 1 rfl) ?_
  refine va_get (D := D) (ci := 8) (v := .ref (a0 9)) (C := RX8) (T := TX8) (N := 27) hx hb hts hinX8 hown hK.1 hP 0 rfl rfl 8 (by decide) lkf31 (fun _ h9 => h9) rfl dX8_addKnot_30 ?_
  refine lv_iload hx hb dX8_addKnot_33 (lv_at hl 0 rfl) ?_
  refine lv_iload hx hb dX8_addKnot_35 (lv_at hl 5 rfl) ?_
  refine iast (j := v2.toNatClampNeg) (wn := (wX8 cA a0 (sA s5 8 v2.toNatClampNeg x4))) hx hb hK hP hD hS 8 rfl rfl (ck_in hi3) dX8_addKnot_37 rfl (fun H locs hP hD hS => ?_)
  obtain ⟨s6, es6⟩ : ∃ z, z = sA s5 8 v2.toNatClampNeg x4 := ⟨_, rfl⟩
  rw [← es6] at hP hD
  have h := nm_ap es6 h
  refine lv_aload_n hx hb dX8_addKnot_38 rfl (lv_at hl 1 rfl) ?_
  refine va_get (D := D) (ci := 8) (v := .ref (a0 10)) (C := RX8) (T := TX8) (N := 27) hx hb hts hinX8 hown hK.1 hP 0 rfl rfl 9 (by decide) lkf34 (fun _ h9 => h9) rfl dX8_addKnot_39 ?_
  refine lv_iload hx hb dX8_addKnot_42 (lv_at hl 0 rfl) ?_
  refine lv_iload hx hb dX8_addKnot_44 (lv_at hl 6 rfl) ?_
  refine iast (j := v2.toNatClampNeg) (wn := (wX8 cA a0 (sA s6 9 v2.toNatClampNeg x5))) hx hb hK hP hD hS 9 rfl rfl (ck_in hi3) dX8_addKnot_46 rfl (fun H locs hP hD hS => ?_)
  obtain ⟨s7, es7⟩ : ∃ z, z = sA s6 9 v2.toNatClampNeg x5 := ⟨_, rfl⟩
  rw [← es7] at hP hD
  have h := nm_ap es7 h
  refine lv_aload_n hx hb dX8_addKnot_47 rfl (lv_at hl 1 rfl) ?_
  refine va_get (D := D) (ci := 8) (v := .ref (a0 11)) (C := RX8) (T := TX8) (N := 27) hx hb hts hinX8 hown hK.1 hP 0 rfl rfl 10 (by decide) lkf37 (fun _ h9 => h9) rfl dX8_addKnot_48 ?_
  refine lv_iload hx hb dX8_addKnot_51 (lv_at hl 0 rfl) ?_
  refine lv_iload hx hb dX8_addKnot_53 (lv_at hl 7 rfl) ?_
  refine iast (j := v2.toNatClampNeg) (wn := (wX8 cA a0 (sA s7 10 v2.toNatClampNeg x6))) hx hb hK hP hD hS 10 rfl rfl (ck_in hi3) dX8_addKnot_55 rfl (fun H locs hP hD hS => ?_)
  obtain ⟨s8, es8⟩ : ∃ z, z = sA s7 10 v2.toNatClampNeg x6 := ⟨_, rfl⟩
  rw [← es8] at hP hD
  have h := nm_ap es8 h
  refine lv_aload_n hx hb dX8_addKnot_56 rfl (lv_at hl 1 rfl) ?_
  refine va_get (D := D) (ci := 8) (v := .ref (a0 12)) (C := RX8) (T := TX8) (N := 27) hx hb hts hinX8 hown hK.1 hP 0 rfl rfl 11 (by decide) lkf40 (fun _ h9 => h9) rfl dX8_addKnot_57 ?_
  refine lv_iload_n hx hb dX8_addKnot_60 rfl (lv_at hl 2 rfl) ?_
  refine lv_dup2_11 hx hb dX8_addKnot_61 rfl rfl ?_
  refine iald (q0 := 0) (t0 := 0) (j := x1.toNatClampNeg) hx hb hK hP 11 rfl rfl (ck_in hi1) dX8_addKnot_62 ?_
  refine lv_iconst (v := (1 : Int32)) hx hb dX8_addKnot_63 (by decide) ?_
  refine lv_aload_n hx hb dX8_addKnot_64 rfl (lv_at hl 1 rfl) ?_
  refine va_get (D := D) (ci := 8) (v := .ref (a0 6)) (C := RX8) (T := TX8) (N := 27) hx hb hts hinX8 hown hK.1 hP 0 rfl rfl 5 (by decide) lkf22 (fun _ h9 => h9) rfl dX8_addKnot_65 ?_
  refine lv_iload_n hx hb dX8_addKnot_68 rfl (lv_at hl 2 rfl) ?_
  refine iald (q0 := 0) (t0 := 0) (j := x1.toNatClampNeg) hx hb hK hP 5 rfl rfl (ck_in hi1) dX8_addKnot_69 ?_
  refine lv_ishl hx hb dX8_addKnot_70 ?_
  refine lv_ior hx hb dX8_addKnot_71 ?_
  refine iast (j := x1.toNatClampNeg) (wn := (wX8 cA a0 (sA s8 11 x1.toNatClampNeg ((s8.2 11 x1.toNatClampNeg) ||| ((1 : Int32) <<< ((s8.2 5 x1.toNatClampNeg) &&& 31)))))) hx hb hK hP hD hS 11 rfl rfl (ck_in hi1) dX8_addKnot_72 rfl (fun H locs hP hD hS => ?_)
  obtain ⟨s9, es9⟩ : ∃ z, z = sA s8 11 x1.toNatClampNeg ((s8.2 11 x1.toNatClampNeg) ||| ((1 : Int32) <<< ((s8.2 5 x1.toNatClampNeg) &&& 31))) := ⟨_, rfl⟩
  rw [← es9] at hP hD
  have h := nm_ap es9 h
  refine lv_aload_n hx hb dX8_addKnot_73 rfl (lv_at hl 1 rfl) ?_
  refine va_get (D := D) (ci := 8) (v := .ref (a0 6)) (C := RX8) (T := TX8) (N := 27) hx hb hts hinX8 hown hK.1 hP 0 rfl rfl 5 (by decide) lkf22 (fun _ h9 => h9) rfl dX8_addKnot_74 ?_
  refine lv_iload_n hx hb dX8_addKnot_77 rfl (lv_at hl 2 rfl) ?_
  refine lv_dup2_11 hx hb dX8_addKnot_78 rfl rfl ?_
  refine iald (q0 := 0) (t0 := 0) (j := x1.toNatClampNeg) hx hb hK hP 5 rfl rfl (ck_in hi1) dX8_addKnot_79 ?_
  refine lv_iconst (v := (1 : Int32)) hx hb dX8_addKnot_80 (by decide) ?_
  refine lv_iadd hx hb dX8_addKnot_81 ?_
  refine iast (j := x1.toNatClampNeg) (wn := (wX8 cA a0 (sA s9 5 x1.toNatClampNeg ((s9.2 5 x1.toNatClampNeg) + (1 : Int32))))) hx hb hK hP hD hS 5 rfl rfl (ck_in hi1) dX8_addKnot_82 rfl (fun H locs hP hD hS => ?_)
  obtain ⟨s10, es10⟩ : ∃ z, z = sA s9 5 x1.toNatClampNeg ((s9.2 5 x1.toNatClampNeg) + (1 : Int32)) := ⟨_, rfl⟩
  rw [← es10] at hP hD
  have h := nm_ap es10 h
  cases h
  exact hend _ _ _ _ hP hD hS dX8_addKnot_83
abbrev rmX8_item : Room := ({ frames := 2, cells := 0, slots := 0, locals := 51 } : Room)
set_option maxHeartbeats 4000000 in
set_option maxRecDepth 100000 in
theorem c_X8_item (l : Launch) (D : va_G) (cA : ClassId) (a0 : (Nat → Nat)) (o0 : Ob) (r : Int32) (o0_ : Ob) (h : f_X8_item o0 = some (r, o0_)) : ConW l yX8_item wsX8_item rmX8_item D cA [.ref (a0 0)] (wX8 cA a0 o0) r (wX8 cA a0 o0_) := by
  refine ConWZ.enter (cc := cX8_item) (maxL := 2) (by decide) rfl (Nat.le_of_ble_eq_true rfl) ?_
  intro p e s m args below meth c Q A hx hb hml hown hts hK hP hD hA hend ls hl
  have hS : va_S A s.heap s.heap [] := va_S.rf
  have hl : lv_has ls 2 [(0, .ref (a0 0))] := hl
  unfold f_X8_item at h
  have lkf92 := hts (.fieldLink RX8 92 "TiedToTownModel" "place" "I") (List.mem_of_getElem? (i := 1) rfl)
  have hinX8 : ∀ w ∈ wsX80, w ∈ wsX8_item := fun w h => List.mem_cons_of_mem _ (List.mem_append_right _ h)
  have lkf22 := hts (.fieldLink RX8 22 "TiedToTownModel" "many" "[I") (List.mem_of_getElem? (i := 5) rfl)
  have lkf58 := hts (.fieldLink RX8 58 "TiedToTownModel" "told" "[I") (List.mem_of_getElem? (i := 3) rfl)
  have lkf19 := hts (.fieldLink RX8 19 "TiedToTownModel" "law" "[I") (List.mem_of_getElem? (i := 6) rfl)
  have lkf13 := hts (.fieldLink RX8 13 "TiedToTownModel" "personMany" "[I") (List.mem_of_getElem? (i := 2) rfl)
  have lkf16 := hts (.fieldLink RX8 16 "TiedToTownModel" "alive" "[I") (List.mem_of_getElem? (i := 4) rfl)
  refine lv_aload_n hx hb dX8_item_0 rfl (lv_at hl 0 rfl) ?_
  refine lv_aload_n hx hb dX8_item_1 rfl (lv_at hl 0 rfl) ?_
  refine va_get (D := D) (ci := 8) (v := .int (o0.1 20)) (C := RX8) (T := TX8) (N := 27) hx hb hts hinX8 hown hK.1 hP 0 rfl rfl 20 (by decide) lkf92 (fun _ h9 => h9) rfl dX8_item_2 ?_
  obtain ⟨z1, hz1, h⟩ := bd_some h
  refine cR_V (As := [.int (o0.1 20)]) (rest := []) ⟨hx, hb, hml, hown, hts⟩ (c_X8_byteAt l D cA a0 o0 (o0.1 20) z1 hz1) (cwV 1 hts gX8_item_X8_byteAt rfl rfl rfl hd_X8_byteAt ⟨(Nat.le_of_ble_eq_true rfl), (Nat.le_of_ble_eq_true rfl)⟩) (recvK hK hP 0 8 rfl rfl) hK hP [0, 1, 2, 3, 4, 5, 6, 7, 8, 9, 10, 11, 12, 13, 14, 15, 16, 17, 18, 19, 20, 21, 22] rfl rfl hl.1 rfl (Nat.le_of_ble_eq_true rfl) dX8_item_5 ⟨(Nat.le_of_ble_eq_true rfl), (Nat.le_of_ble_eq_true rfl)⟩ ?_
  refine lv_istore_n (lv' := [(1, .int z1), (0, .ref (a0 0))]) hx hb dX8_item_8 rfl hl (by decide) rfl (fun ls hl => ?_)
  refine lv_aload_n hx hb dX8_item_9 rfl (lv_at hl 1 rfl) ?_
  refine lv_dup hx hb dX8_item_10 rfl ?_
  refine va_get (D := D) (ci := 8) (v := .int (o0.1 20)) (C := RX8) (T := TX8) (N := 27) hx hb hts hinX8 hown hK.1 hP 0 rfl rfl 20 (by decide) lkf92 (fun _ h9 => h9) rfl dX8_item_11 ?_
  refine lv_iconst (v := (1 : Int32)) hx hb dX8_item_14 (by decide) ?_
  refine lv_iadd hx hb dX8_item_15 ?_
  refine va_put (D := D) (ci := 8) (v := .int ((o0.1 20) + (1 : Int32))) (ty := .int) (C := RX8) (T := TX8) (N := 27) hx hb hts hinX8 tyX8 tyX8_ok nmX8 hown hK.1 hP hD hS 0 rfl rfl 20 (by decide) lkf92 (fun _ h9 => h9) rfl (by decide +kernel) rfl rfl (Nat.le_of_ble_eq_true rfl) dX8_item_16 (fun H locs hP hD hS => ?_)
  have hP : va_P D vwCl (wX8 cA a0 (sF o0 20 ((o0.1 20) + (1 : Int32)))) H := hP
  have hD : va_D A (wX8 cA a0 (sF o0 20 ((o0.1 20) + (1 : Int32)))) := hD
  obtain ⟨s2, es2⟩ : ∃ z, z = sF o0 20 ((o0.1 20) + (1 : Int32)) := ⟨_, rfl⟩
  rw [← es2] at hP hD
  have h := nm_ap es2 h
  refine lv_iload_n hx hb dX8_item_19 rfl (lv_at hl 0 rfl) ?_
  by_cases hc3 : z1 = (107 : Int32)
  · have h := if_t hc3 h
    refine lv_lookup (off := 101) (tgt := 121) hx hb dX8_item_20 (by decide) (by rw [hc3]; decide) (by decide) ?_
    refine lv_aload_n hx hb dX8_item_121 rfl (lv_at hl 1 rfl) ?_
    refine lv_iconst (v := (5 : Int32)) hx hb dX8_item_122 (by decide) ?_
    obtain ⟨z4, hz4, h⟩ := bd_some h
    refine cW_V (As := [.int (5 : Int32)]) (rest := []) (wn := (wX8 cA a0 z4.2)) ⟨hx, hb, hml, hown, hts⟩ (c_X8_figures l D cA a0 s2 (5 : Int32) z4.1 z4.2 hz4) (cwV 1 hts gX8_item_X8_figures rfl rfl rfl hd_X8_figures ⟨(Nat.le_of_ble_eq_true rfl), (Nat.le_of_ble_eq_true rfl)⟩) (recvK hK hP 0 8 rfl rfl) hK hP hD hS hA [0, 1, 2, 3, 4, 5, 6, 7, 8, 9, 10, 11, 12, 13, 14, 15, 16, 17, 18, 19, 20, 21, 22] [] [0, 1, 2, 3, 4, 5, 6, 7, 8, 9, 10, 11, 12, 13, 14, 15, 16, 17, 18, 19, 20, 21, 22] rfl rfl rfl rfl rfl rfl rfl rfl hl.1 rfl (Nat.le_of_ble_eq_true rfl) dX8_item_123 ⟨(Nat.le_of_ble_eq_true rfl), (Nat.le_of_ble_eq_true rfl)⟩ (fun H locs hP hD hS => ?_)
    refine lv_if_eq (tgt := 178) hx hb dX8_item_126 (by decide) (fun hc => ?_) (fun hc => ?_)
    · have h := if_t hc h
      refine lv_iconst (v := (0 : Int32)) hx hb dX8_item_178 (by decide) ?_
      cases h
      exact hend _ _ _ _ (by decide) hP hD hS dX8_item_179
    · have h := if_f hc h
      refine lv_aload_n hx hb dX8_item_129 rfl (lv_at hl 1 rfl) ?_
      refine va_get (D := D) (ci := 8) (v := .ref (a0 6)) (C := RX8) (T := TX8) (N := 27) hx hb hts hinX8 hown hK.1 hP 0 rfl rfl 5 (by decide) lkf22 (fun _ h9 => h9) rfl dX8_item_130 ?_
      refine lv_iconst (v := (1 : Int32)) hx hb dX8_item_133 (by decide) ?_
      refine iald (q0 := 0) (t0 := 0) (j := 1) hx hb hK hP 5 rfl rfl (vp_in_iff.mpr (by decide)) dX8_item_134 ?_
      refine lv_bipush (v := (8 : Int32)) hx hb dX8_item_135 (by decide) ?_
      refine lv_icmp_eq (tgt := 178) hx hb dX8_item_137 (by decide) (fun hc => ?_) (fun hc => ?_)
      · have h := if_t hc h
        refine lv_iconst (v := (0 : Int32)) hx hb dX8_item_178 (by decide) ?_
        cases h
        exact hend _ _ _ _ (by decide) hP hD hS dX8_item_179
      · have h := if_f hc h
        refine lv_aload_n hx hb dX8_item_140 rfl (lv_at hl 1 rfl) ?_
        refine lv_iconst (v := (1 : Int32)) hx hb dX8_item_141 (by decide) ?_
        refine lv_aload_n hx hb dX8_item_142 rfl (lv_at hl 1 rfl) ?_
        refine va_get (D := D) (ci := 8) (v := .ref (a0 22)) (C := RX8) (T := TX8) (N := 27) hx hb hts hinX8 hown hK.1 hP 0 rfl rfl 21 (by decide) lkf58 (fun _ h9 => h9) rfl dX8_item_143 ?_
        refine lv_iconst (v := (0 : Int32)) hx hb dX8_item_146 (by decide) ?_
        refine iald (q0 := 0) (t0 := 0) (j := 0) hx hb hK hP 17 rfl rfl (vp_in_iff.mpr (by decide)) dX8_item_147 ?_
        refine lv_aload_n hx hb dX8_item_148 rfl (lv_at hl 1 rfl) ?_
        refine va_get (D := D) (ci := 8) (v := .ref (a0 22)) (C := RX8) (T := TX8) (N := 27) hx hb hts hinX8 hown hK.1 hP 0 rfl rfl 21 (by decide) lkf58 (fun _ h9 => h9) rfl dX8_item_149 ?_
        refine lv_iconst (v := (1 : Int32)) hx hb dX8_item_152 (by decide) ?_
        refine iald (q0 := 0) (t0 := 0) (j := 1) hx hb hK hP 17 rfl rfl (vp_in_iff.mpr (by decide)) dX8_item_153 ?_
        refine lv_aload_n hx hb dX8_item_154 rfl (lv_at hl 1 rfl) ?_
        refine va_get (D := D) (ci := 8) (v := .ref (a0 22)) (C := RX8) (T := TX8) (N := 27) hx hb hts hinX8 hown hK.1 hP 0 rfl rfl 21 (by decide) lkf58 (fun _ h9 => h9) rfl dX8_item_155 ?_
        refine lv_iconst (v := (2 : Int32)) hx hb dX8_item_158 (by decide) ?_
        refine iald (q0 := 0) (t0 := 0) (j := 2) hx hb hK hP 17 rfl rfl (vp_in_iff.mpr (by decide)) dX8_item_159 ?_
        refine lv_aload_n hx hb dX8_item_160 rfl (lv_at hl 1 rfl) ?_
        refine va_get (D := D) (ci := 8) (v := .ref (a0 22)) (C := RX8) (T := TX8) (N := 27) hx hb hts hinX8 hown hK.1 hP 0 rfl rfl 21 (by decide) lkf58 (fun _ h9 => h9) rfl dX8_item_161 ?_
        refine lv_iconst (v := (3 : Int32)) hx hb dX8_item_164 (by decide) ?_
        refine iald (q0 := 0) (t0 := 0) (j := 3) hx hb hK hP 17 rfl rfl (vp_in_iff.mpr (by decide)) dX8_item_165 ?_
        refine lv_aload_n hx hb dX8_item_166 rfl (lv_at hl 1 rfl) ?_
        refine va_get (D := D) (ci := 8) (v := .ref (a0 22)) (C := RX8) (T := TX8) (N := 27) hx hb hts hinX8 hown hK.1 hP 0 rfl rfl 21 (by decide) lkf58 (fun _ h9 => h9) rfl dX8_item_167 ?_
        refine lv_iconst (v := (4 : Int32)) hx hb dX8_item_170 (by decide) ?_
        refine iald (q0 := 0) (t0 := 0) (j := 4) hx hb hK hP 17 rfl rfl (vp_in_iff.mpr (by decide)) dX8_item_171 ?_
        obtain ⟨z5, hz5, h⟩ := bd_some h
        refine cR_V (As := [.int (1 : Int32), .int (z4.2.2 21 0), .int (z4.2.2 21 1), .int (z4.2.2 21 2), .int (z4.2.2 21 3), .int (z4.2.2 21 4)]) (rest := []) ⟨hx, hb, hml, hown, hts⟩ (c_X8_isKnot l D cA a0 z4.2 (1 : Int32) (z4.2.2 21 0) (z4.2.2 21 1) (z4.2.2 21 2) (z4.2.2 21 3) (z4.2.2 21 4) z5 hz5) (cwV 6 hts gX8_item_X8_isKnot rfl rfl rfl hd_X8_isKnot ⟨(Nat.le_of_ble_eq_true rfl), (Nat.le_of_ble_eq_true rfl)⟩) (recvK hK hP 0 8 rfl rfl) hK hP [0, 1, 2, 3, 4, 5, 6, 7, 8, 9, 10, 11, 12, 13, 14, 15, 16, 17, 18, 19, 20, 21, 22] rfl rfl hl.1 rfl (Nat.le_of_ble_eq_true rfl) dX8_item_172 ⟨(Nat.le_of_ble_eq_true rfl), (Nat.le_of_ble_eq_true rfl)⟩ ?_
        refine lv_if_ne (tgt := 180) hx hb dX8_item_175 (by decide) (fun hc => ?_) (fun hc => ?_)
        · have h := if_f hc h
          refine lv_aload_n hx hb dX8_item_180 rfl (lv_at hl 1 rfl) ?_
          refine lv_iconst (v := (1 : Int32)) hx hb dX8_item_181 (by decide) ?_
          refine lv_aload_n hx hb dX8_item_182 rfl (lv_at hl 1 rfl) ?_
          refine va_get (D := D) (ci := 8) (v := .ref (a0 22)) (C := RX8) (T := TX8) (N := 27) hx hb hts hinX8 hown hK.1 hP 0 rfl rfl 21 (by decide) lkf58 (fun _ h9 => h9) rfl dX8_item_183 ?_
          refine lv_iconst (v := (0 : Int32)) hx hb dX8_item_186 (by decide) ?_
          refine iald (q0 := 0) (t0 := 0) (j := 0) hx hb hK hP 17 rfl rfl (vp_in_iff.mpr (by decide)) dX8_item_187 ?_
          refine lv_aload_n hx hb dX8_item_188 rfl (lv_at hl 1 rfl) ?_
          refine va_get (D := D) (ci := 8) (v := .ref (a0 22)) (C := RX8) (T := TX8) (N := 27) hx hb hts hinX8 hown hK.1 hP 0 rfl rfl 21 (by decide) lkf58 (fun _ h9 => h9) rfl dX8_item_189 ?_
          refine lv_iconst (v := (1 : Int32)) hx hb dX8_item_192 (by decide) ?_
          refine iald (q0 := 0) (t0 := 0) (j := 1) hx hb hK hP 17 rfl rfl (vp_in_iff.mpr (by decide)) dX8_item_193 ?_
          refine lv_aload_n hx hb dX8_item_194 rfl (lv_at hl 1 rfl) ?_
          refine va_get (D := D) (ci := 8) (v := .ref (a0 22)) (C := RX8) (T := TX8) (N := 27) hx hb hts hinX8 hown hK.1 hP 0 rfl rfl 21 (by decide) lkf58 (fun _ h9 => h9) rfl dX8_item_195 ?_
          refine lv_iconst (v := (2 : Int32)) hx hb dX8_item_198 (by decide) ?_
          refine iald (q0 := 0) (t0 := 0) (j := 2) hx hb hK hP 17 rfl rfl (vp_in_iff.mpr (by decide)) dX8_item_199 ?_
          refine lv_aload_n hx hb dX8_item_200 rfl (lv_at hl 1 rfl) ?_
          refine va_get (D := D) (ci := 8) (v := .ref (a0 22)) (C := RX8) (T := TX8) (N := 27) hx hb hts hinX8 hown hK.1 hP 0 rfl rfl 21 (by decide) lkf58 (fun _ h9 => h9) rfl dX8_item_201 ?_
          refine lv_iconst (v := (3 : Int32)) hx hb dX8_item_204 (by decide) ?_
          refine iald (q0 := 0) (t0 := 0) (j := 3) hx hb hK hP 17 rfl rfl (vp_in_iff.mpr (by decide)) dX8_item_205 ?_
          refine lv_aload_n hx hb dX8_item_206 rfl (lv_at hl 1 rfl) ?_
          refine va_get (D := D) (ci := 8) (v := .ref (a0 22)) (C := RX8) (T := TX8) (N := 27) hx hb hts hinX8 hown hK.1 hP 0 rfl rfl 21 (by decide) lkf58 (fun _ h9 => h9) rfl dX8_item_207 ?_
          refine lv_iconst (v := (4 : Int32)) hx hb dX8_item_210 (by decide) ?_
          refine iald (q0 := 0) (t0 := 0) (j := 4) hx hb hK hP 17 rfl rfl (vp_in_iff.mpr (by decide)) dX8_item_211 ?_
          obtain ⟨z6, hz6, h⟩ := bd_some h
          refine cV_V (As := [.int (1 : Int32), .int (z4.2.2 21 0), .int (z4.2.2 21 1), .int (z4.2.2 21 2), .int (z4.2.2 21 3), .int (z4.2.2 21 4)]) (rest := []) (wn := (wX8 cA a0 z6)) ⟨hx, hb, hml, hown, hts⟩ (c_X8_addKnot l D cA a0 z4.2 (1 : Int32) (z4.2.2 21 0) (z4.2.2 21 1) (z4.2.2 21 2) (z4.2.2 21 3) (z4.2.2 21 4)  z6 hz6) (cwV 6 hts gX8_item_X8_addKnot rfl rfl rfl hd_X8_addKnot ⟨(Nat.le_of_ble_eq_true rfl), (Nat.le_of_ble_eq_true rfl)⟩) (recvK hK hP 0 8 rfl rfl) hK hP hD hS hA [0, 1, 2, 3, 4, 5, 6, 7, 8, 9, 10, 11, 12, 13, 14, 15, 16, 17, 18, 19, 20, 21, 22] [] [0, 1, 2, 3, 4, 5, 6, 7, 8, 9, 10, 11, 12, 13, 14, 15, 16, 17, 18, 19, 20, 21, 22] rfl rfl rfl rfl rfl rfl rfl rfl hl.1 rfl (Nat.le_of_ble_eq_true rfl) dX8_item_212 ⟨(Nat.le_of_ble_eq_true rfl), (Nat.le_of_ble_eq_true rfl)⟩ (fun H locs hP hD hS => ?_)
          refine lv_iconst (v := (1 : Int32)) hx hb dX8_item_215 (by decide) ?_
          cases h
          exact hend _ _ _ _ (by decide) hP hD hS dX8_item_216
        · have h := if_t hc h
          refine lv_iconst (v := (0 : Int32)) hx hb dX8_item_178 (by decide) ?_
          cases h
          exact hend _ _ _ _ (by decide) hP hD hS dX8_item_179
  have h := if_f hc3 h
  by_cases hc7 : z1 = (108 : Int32)
  · have h := if_t hc7 h
    refine lv_lookup (off := 197) (tgt := 217) hx hb dX8_item_20 (by decide) (by rw [hc7]; decide) (by decide) ?_
    refine lv_aload_n hx hb dX8_item_217 rfl (lv_at hl 1 rfl) ?_
    refine lv_iconst (v := (1 : Int32)) hx hb dX8_item_218 (by decide) ?_
    obtain ⟨z8, hz8, h⟩ := bd_some h
    refine cW_V (As := [.int (1 : Int32)]) (rest := []) (wn := (wX8 cA a0 z8.2)) ⟨hx, hb, hml, hown, hts⟩ (c_X8_figures l D cA a0 s2 (1 : Int32) z8.1 z8.2 hz8) (cwV 1 hts gX8_item_X8_figures rfl rfl rfl hd_X8_figures ⟨(Nat.le_of_ble_eq_true rfl), (Nat.le_of_ble_eq_true rfl)⟩) (recvK hK hP 0 8 rfl rfl) hK hP hD hS hA [0, 1, 2, 3, 4, 5, 6, 7, 8, 9, 10, 11, 12, 13, 14, 15, 16, 17, 18, 19, 20, 21, 22] [] [0, 1, 2, 3, 4, 5, 6, 7, 8, 9, 10, 11, 12, 13, 14, 15, 16, 17, 18, 19, 20, 21, 22] rfl rfl rfl rfl rfl rfl rfl rfl hl.1 rfl (Nat.le_of_ble_eq_true rfl) dX8_item_219 ⟨(Nat.le_of_ble_eq_true rfl), (Nat.le_of_ble_eq_true rfl)⟩ (fun H locs hP hD hS => ?_)
    refine lv_if_eq (tgt := 235) hx hb dX8_item_222 (by decide) (fun hc => ?_) (fun hc => ?_)
    · have h := if_t hc h
      refine lv_iconst (v := (0 : Int32)) hx hb dX8_item_235 (by decide) ?_
      cases h
      exact hend _ _ _ _ (by decide) hP hD hS dX8_item_236
    · have h := if_f hc h
      refine lv_aload_n hx hb dX8_item_225 rfl (lv_at hl 1 rfl) ?_
      refine va_get (D := D) (ci := 8) (v := .ref (a0 22)) (C := RX8) (T := TX8) (N := 27) hx hb hts hinX8 hown hK.1 hP 0 rfl rfl 21 (by decide) lkf58 (fun _ h9 => h9) rfl dX8_item_226 ?_
      refine lv_iconst (v := (0 : Int32)) hx hb dX8_item_229 (by decide) ?_
      refine iald (q0 := 0) (t0 := 0) (j := 0) hx hb hK hP 17 rfl rfl (vp_in_iff.mpr (by decide)) dX8_item_230 ?_
      refine lv_iconst (v := (2 : Int32)) hx hb dX8_item_231 (by decide) ?_
      refine lv_icmp_le (tgt := 237) hx hb dX8_item_232 (by decide) (fun hc => ?_) (fun hc => ?_)
      · have h := if_t hc h
        refine lv_aload_n hx hb dX8_item_237 rfl (lv_at hl 1 rfl) ?_
        refine va_get (D := D) (ci := 8) (v := .ref (a0 5)) (C := RX8) (T := TX8) (N := 27) hx hb hts hinX8 hown hK.1 hP 0 rfl rfl 4 (by decide) lkf19 (fun _ h9 => h9) rfl dX8_item_238 ?_
        refine lv_iconst (v := (1 : Int32)) hx hb dX8_item_241 (by decide) ?_
        refine lv_aload_n hx hb dX8_item_242 rfl (lv_at hl 1 rfl) ?_
        refine va_get (D := D) (ci := 8) (v := .ref (a0 22)) (C := RX8) (T := TX8) (N := 27) hx hb hts hinX8 hown hK.1 hP 0 rfl rfl 21 (by decide) lkf58 (fun _ h9 => h9) rfl dX8_item_243 ?_
        refine lv_iconst (v := (0 : Int32)) hx hb dX8_item_246 (by decide) ?_
        refine iald (q0 := 0) (t0 := 0) (j := 0) hx hb hK hP 17 rfl rfl (vp_in_iff.mpr (by decide)) dX8_item_247 ?_
        refine iast (j := 1) (wn := (wX8 cA a0 (sA z8.2 4 1 (z8.2.2 21 0)))) hx hb hK hP hD hS 4 rfl rfl (vp_in_iff.mpr (by decide)) dX8_item_248 rfl (fun H locs hP hD hS => ?_)
        obtain ⟨s9, es9⟩ : ∃ z, z = sA z8.2 4 1 (z8.2.2 21 0) := ⟨_, rfl⟩
        rw [← es9] at hP hD
        have h := nm_ap es9 h
        refine lv_iconst (v := (1 : Int32)) hx hb dX8_item_249 (by decide) ?_
        cases h
        exact hend _ _ _ _ (by decide) hP hD hS dX8_item_250
      · have h := if_f hc h
        refine lv_iconst (v := (0 : Int32)) hx hb dX8_item_235 (by decide) ?_
        cases h
        exact hend _ _ _ _ (by decide) hP hD hS dX8_item_236
  have h := if_f hc7 h
  by_cases hc10 : z1 = (112 : Int32)
  · have h := if_t hc10 h
    refine lv_lookup (off := 36) (tgt := 56) hx hb dX8_item_20 (by decide) (by rw [hc10]; decide) (by decide) ?_
    refine lv_aload_n hx hb dX8_item_56 rfl (lv_at hl 1 rfl) ?_
    refine lv_iconst (v := (1 : Int32)) hx hb dX8_item_57 (by decide) ?_
    obtain ⟨z11, hz11, h⟩ := bd_some h
    refine cW_V (As := [.int (1 : Int32)]) (rest := []) (wn := (wX8 cA a0 z11.2)) ⟨hx, hb, hml, hown, hts⟩ (c_X8_figures l D cA a0 s2 (1 : Int32) z11.1 z11.2 hz11) (cwV 1 hts gX8_item_X8_figures rfl rfl rfl hd_X8_figures ⟨(Nat.le_of_ble_eq_true rfl), (Nat.le_of_ble_eq_true rfl)⟩) (recvK hK hP 0 8 rfl rfl) hK hP hD hS hA [0, 1, 2, 3, 4, 5, 6, 7, 8, 9, 10, 11, 12, 13, 14, 15, 16, 17, 18, 19, 20, 21, 22] [] [0, 1, 2, 3, 4, 5, 6, 7, 8, 9, 10, 11, 12, 13, 14, 15, 16, 17, 18, 19, 20, 21, 22] rfl rfl rfl rfl rfl rfl rfl rfl hl.1 rfl (Nat.le_of_ble_eq_true rfl) dX8_item_58 ⟨(Nat.le_of_ble_eq_true rfl), (Nat.le_of_ble_eq_true rfl)⟩ (fun H locs hP hD hS => ?_)
    refine lv_if_eq (tgt := 85) hx hb dX8_item_61 (by decide) (fun hc => ?_) (fun hc => ?_)
    · have h := if_t hc h
      refine lv_iconst (v := (0 : Int32)) hx hb dX8_item_85 (by decide) ?_
      cases h
      exact hend _ _ _ _ (by decide) hP hD hS dX8_item_86
    · have h := if_f hc h
      refine lv_aload_n hx hb dX8_item_64 rfl (lv_at hl 1 rfl) ?_
      refine va_get (D := D) (ci := 8) (v := .ref (a0 3)) (C := RX8) (T := TX8) (N := 27) hx hb hts hinX8 hown hK.1 hP 0 rfl rfl 2 (by decide) lkf13 (fun _ h9 => h9) rfl dX8_item_65 ?_
      refine lv_iconst (v := (1 : Int32)) hx hb dX8_item_68 (by decide) ?_
      refine iald (q0 := 0) (t0 := 0) (j := 1) hx hb hK hP 2 rfl rfl (vp_in_iff.mpr (by decide)) dX8_item_69 ?_
      refine lv_bipush (v := (6 : Int32)) hx hb dX8_item_70 (by decide) ?_
      refine lv_icmp_eq (tgt := 85) hx hb dX8_item_72 (by decide) (fun hc => ?_) (fun hc => ?_)
      · have h := if_t hc h
        refine lv_iconst (v := (0 : Int32)) hx hb dX8_item_85 (by decide) ?_
        cases h
        exact hend _ _ _ _ (by decide) hP hD hS dX8_item_86
      · have h := if_f hc h
        refine lv_aload_n hx hb dX8_item_75 rfl (lv_at hl 1 rfl) ?_
        refine va_get (D := D) (ci := 8) (v := .ref (a0 22)) (C := RX8) (T := TX8) (N := 27) hx hb hts hinX8 hown hK.1 hP 0 rfl rfl 21 (by decide) lkf58 (fun _ h9 => h9) rfl dX8_item_76 ?_
        refine lv_iconst (v := (0 : Int32)) hx hb dX8_item_79 (by decide) ?_
        refine iald (q0 := 0) (t0 := 0) (j := 0) hx hb hK hP 17 rfl rfl (vp_in_iff.mpr (by decide)) dX8_item_80 ?_
        refine lv_iconst (v := (1 : Int32)) hx hb dX8_item_81 (by decide) ?_
        refine lv_icmp_le (tgt := 87) hx hb dX8_item_82 (by decide) (fun hc => ?_) (fun hc => ?_)
        · have h := if_t hc h
          refine lv_aload_n hx hb dX8_item_87 rfl (lv_at hl 1 rfl) ?_
          refine va_get (D := D) (ci := 8) (v := .ref (a0 4)) (C := RX8) (T := TX8) (N := 27) hx hb hts hinX8 hown hK.1 hP 0 rfl rfl 3 (by decide) lkf16 (fun _ h9 => h9) rfl dX8_item_88 ?_
          refine lv_iconst (v := (1 : Int32)) hx hb dX8_item_91 (by decide) ?_
          refine lv_dup2_11 hx hb dX8_item_92 rfl rfl ?_
          refine iald (q0 := 0) (t0 := 0) (j := 1) hx hb hK hP 3 rfl rfl (vp_in_iff.mpr (by decide)) dX8_item_93 ?_
          refine lv_aload_n hx hb dX8_item_94 rfl (lv_at hl 1 rfl) ?_
          refine va_get (D := D) (ci := 8) (v := .ref (a0 22)) (C := RX8) (T := TX8) (N := 27) hx hb hts hinX8 hown hK.1 hP 0 rfl rfl 21 (by decide) lkf58 (fun _ h9 => h9) rfl dX8_item_95 ?_
          refine lv_iconst (v := (0 : Int32)) hx hb dX8_item_98 (by decide) ?_
          refine iald (q0 := 0) (t0 := 0) (j := 0) hx hb hK hP 17 rfl rfl (vp_in_iff.mpr (by decide)) dX8_item_99 ?_
          refine lv_aload_n hx hb dX8_item_100 rfl (lv_at hl 1 rfl) ?_
          refine va_get (D := D) (ci := 8) (v := .ref (a0 3)) (C := RX8) (T := TX8) (N := 27) hx hb hts hinX8 hown hK.1 hP 0 rfl rfl 2 (by decide) lkf13 (fun _ h9 => h9) rfl dX8_item_101 ?_
          refine lv_iconst (v := (1 : Int32)) hx hb dX8_item_104 (by decide) ?_
          refine iald (q0 := 0) (t0 := 0) (j := 1) hx hb hK hP 2 rfl rfl (vp_in_iff.mpr (by decide)) dX8_item_105 ?_
          refine lv_ishl hx hb dX8_item_106 ?_
          refine lv_ior hx hb dX8_item_107 ?_
          refine iast (j := 1) (wn := (wX8 cA a0 (sA z11.2 3 1 ((z11.2.2 3 1) ||| ((z11.2.2 21 0) <<< ((z11.2.2 2 1) &&& 31)))))) hx hb hK hP hD hS 3 rfl rfl (vp_in_iff.mpr (by decide)) dX8_item_108 rfl (fun H locs hP hD hS => ?_)
          obtain ⟨s12, es12⟩ : ∃ z, z = sA z11.2 3 1 ((z11.2.2 3 1) ||| ((z11.2.2 21 0) <<< ((z11.2.2 2 1) &&& 31))) := ⟨_, rfl⟩
          rw [← es12] at hP hD
          have h := nm_ap es12 h
          refine lv_aload_n hx hb dX8_item_109 rfl (lv_at hl 1 rfl) ?_
          refine va_get (D := D) (ci := 8) (v := .ref (a0 3)) (C := RX8) (T := TX8) (N := 27) hx hb hts hinX8 hown hK.1 hP 0 rfl rfl 2 (by decide) lkf13 (fun _ h9 => h9) rfl dX8_item_110 ?_
          refine lv_iconst (v := (1 : Int32)) hx hb dX8_item_113 (by decide) ?_
          refine lv_dup2_11 hx hb dX8_item_114 rfl rfl ?_
          refine iald (q0 := 0) (t0 := 0) (j := 1) hx hb hK hP 2 rfl rfl (vp_in_iff.mpr (by decide)) dX8_item_115 ?_
          refine lv_iconst (v := (1 : Int32)) hx hb dX8_item_116 (by decide) ?_
          refine lv_iadd hx hb dX8_item_117 ?_
          refine iast (j := 1) (wn := (wX8 cA a0 (sA s12 2 1 ((s12.2 2 1) + (1 : Int32))))) hx hb hK hP hD hS 2 rfl rfl (vp_in_iff.mpr (by decide)) dX8_item_118 rfl (fun H locs hP hD hS => ?_)
          obtain ⟨s13, es13⟩ : ∃ z, z = sA s12 2 1 ((s12.2 2 1) + (1 : Int32)) := ⟨_, rfl⟩
          rw [← es13] at hP hD
          have h := nm_ap es13 h
          refine lv_iconst (v := (1 : Int32)) hx hb dX8_item_119 (by decide) ?_
          cases h
          exact hend _ _ _ _ (by decide) hP hD hS dX8_item_120
        · have h := if_f hc h
          refine lv_iconst (v := (0 : Int32)) hx hb dX8_item_85 (by decide) ?_
          cases h
          exact hend _ _ _ _ (by decide) hP hD hS dX8_item_86
  have h := if_f hc10 h
  refine lv_lookup (off := 231) (tgt := 251) hx hb dX8_item_20 (by decide) ((lv_osw hc3 (by decide)).trans ((lv_osw hc7 (by decide)).trans ((lv_osw hc10 (by decide)).trans rfl))) (by decide) ?_
  refine lv_iconst (v := (0 : Int32)) hx hb dX8_item_251 (by decide) ?_
  cases h
  exact hend _ _ _ _ (by decide) hP hD hS dX8_item_252
abbrev rmX8_readAll : Room := ({ frames := 3, cells := 0, slots := 0, locals := 72 } : Room)
set_option maxHeartbeats 4000000 in
set_option maxRecDepth 100000 in
theorem c_X8_readAll (l : Launch) (D : va_G) (cA : ClassId) (a0 : (Nat → Nat)) (o0 : Ob) (r : Int32) (o0_ : Ob) (h : f_X8_readAll o0 = some (r, o0_)) : ConW l yX8_readAll wsX8_readAll rmX8_readAll D cA [.ref (a0 0)] (wX8 cA a0 o0) r (wX8 cA a0 o0_) := by
  refine ConW.enter (cc := cX8_readAll) (maxL := 2) (by decide) rfl (Nat.le_of_ble_eq_true rfl) ?_
  intro p e s m args below meth c Q A hx hb hml hown hts hK hP hD hA hend ls hl
  have hS : va_S A s.heap s.heap [] := va_S.rf
  have hl : lv_has ls 2 [(0, .ref (a0 0))] := hl
  unfold f_X8_readAll at h
  have lkf92 := hts (.fieldLink RX8 92 "TiedToTownModel" "place" "I") (List.mem_of_getElem? (i := 1) rfl)
  have hinX8 : ∀ w ∈ wsX80, w ∈ wsX8_readAll := fun w h => List.mem_cons_of_mem _ (List.mem_append_right _ h)
  have lkf86 := hts (.fieldLink RX8 86 "TiedToTownModel" "length" "I") (List.mem_of_getElem? (i := 2) rfl)
  have LP10 : ∀ (n : Nat) (o0 : Ob) (H : Heap) (locs : List Loc) (_ : va_P D vwCl (wX8 cA a0 o0) H) (_ : va_D A (wX8 cA a0 o0)) (_ : va_S A s.heap H locs) (ls : Array Slot) (_ : lv_has ls 2 [(0, .ref (a0 0))]) (res : Nat × Int32 × Ob) (_ : L_X8_readAll_10 n o0 = some res) (_ : (∀ (H : Heap) (locs : List Loc) (_ : va_P D vwCl (wX8 cA a0 res.2.2) H) (_ : va_D A (wX8 cA a0 res.2.2)) (_ : va_S A s.heap H locs) (ls : Array Slot), lv_has ls 2 [(1, .int res.2.1)] → res.1 = 0 → W p l e rmX8_readAll s m args below meth c H locs 0 0 Q (F0 m 33 ls []))) (_ : (∀ (H : Heap) (locs : List Loc) (_ : va_P D vwCl (wX8 cA a0 res.2.2) H) (_ : va_D A (wX8 cA a0 res.2.2)) (_ : va_S A s.heap H locs) (ls : Array Slot), lv_has ls 2 [] → res.1 = 1 → W p l e rmX8_readAll s m args below meth c H locs 0 0 Q (F0 m 38 ls []))), W p l e rmX8_readAll s m args below meth c H locs 0 0 Q (F0 m 10 ls []) := by
    intro n
    induction n with
    | zero =>
      intro o0 H locs hP hD hS ls hl res h K0 K1
      exact absurd h (fun q : (none : Option (Nat × Int32 × Ob)) = some res => by cases q)
    | succ n ih =>
      intro o0 H locs hP hD hS ls hl res h K0 K1
      have h : L_X8_readAll_10_step (L_X8_readAll_10 n) o0 = some res := h
      unfold L_X8_readAll_10_step at h
      refine lv_aload_n hx hb dX8_readAll_10 rfl (lv_at hl 0 rfl) ?_
      refine va_get (D := D) (ci := 8) (v := .int (o0.1 20)) (C := RX8) (T := TX8) (N := 27) hx hb hts hinX8 hown hK.1 hP 0 rfl rfl 20 (by decide) lkf92 (fun _ h9 => h9) rfl dX8_readAll_11 ?_
      refine lv_aload_n hx hb dX8_readAll_14 rfl (lv_at hl 0 rfl) ?_
      refine va_get (D := D) (ci := 8) (v := .int (o0.1 0)) (C := RX8) (T := TX8) (N := 27) hx hb hts hinX8 hown hK.1 hP 0 rfl rfl 0 (by decide) lkf86 (fun _ h9 => h9) rfl dX8_readAll_15 ?_
      refine lv_icmp_ge (tgt := 38) hx hb dX8_readAll_18 (by decide) (fun hc => ?_) (fun hc => ?_)
      · have h := if_t hc h
        cases h
        exact K1 _ _ hP hD hS _ (lv_sub hl [] rfl) rfl
      · have h := if_f hc h
        refine lv_aload_n hx hb dX8_readAll_21 rfl (lv_at hl 0 rfl) ?_
        refine va_get (D := D) (ci := 8) (v := .int (o0.1 20)) (C := RX8) (T := TX8) (N := 27) hx hb hts hinX8 hown hK.1 hP 0 rfl rfl 20 (by decide) lkf92 (fun _ h9 => h9) rfl dX8_readAll_22 ?_
        refine lv_topi (fun v1 ev1 => ?_)
        have h := nm_ap ev1 h
        refine lv_istore_n (lv' := [(1, .int v1), (0, .ref (a0 0))]) hx hb dX8_readAll_25 rfl hl (by decide) rfl (fun ls hl => ?_)
        refine lv_aload_n hx hb dX8_readAll_26 rfl (lv_at hl 1 rfl) ?_
        obtain ⟨z2, hz2, h⟩ := bd_some h
        refine cW_V (As := []) (rest := []) (wn := (wX8 cA a0 z2.2)) ⟨hx, hb, hml, hown, hts⟩ (c_X8_item l D cA a0 o0  z2.1 z2.2 hz2) (cwV 0 hts gX8_readAll_X8_item rfl rfl rfl hd_X8_item ⟨(Nat.le_of_ble_eq_true rfl), (Nat.le_of_ble_eq_true rfl)⟩) (recvK hK hP 0 8 rfl rfl) hK hP hD hS hA [0, 1, 2, 3, 4, 5, 6, 7, 8, 9, 10, 11, 12, 13, 14, 15, 16, 17, 18, 19, 20, 21, 22] [] [0, 1, 2, 3, 4, 5, 6, 7, 8, 9, 10, 11, 12, 13, 14, 15, 16, 17, 18, 19, 20, 21, 22] rfl rfl rfl rfl rfl rfl rfl rfl hl.1 rfl (Nat.le_of_ble_eq_true rfl) dX8_readAll_27 ⟨(Nat.le_of_ble_eq_true rfl), (Nat.le_of_ble_eq_true rfl)⟩ (fun H locs hP hD hS => ?_)
        refine lv_if_ne (tgt := 35) hx hb dX8_readAll_30 (by decide) (fun hc => ?_) (fun hc => ?_)
        · have h := if_f hc h
          refine lv_goto (tgt := 10) hx hb dX8_readAll_35 (by decide) ?_
          exact ih z2.2 _ _ hP hD hS ls (lv_sub hl [1] rfl) _ h K0 K1
        · have h := if_t hc h
          cases h
          exact K0 _ _ hP hD hS _ (lv_sub hl [0] rfl) rfl
  refine lv_aload_n hx hb dX8_readAll_0 rfl (lv_at hl 0 rfl) ?_
  refine lv_iconst (v := (1 : Int32)) hx hb dX8_readAll_1 (by decide) ?_
  obtain ⟨z1, hz1, h⟩ := bd_some h
  refine cV_V (As := [.int (1 : Int32)]) (rest := []) (wn := (wX8 cA a0 z1)) ⟨hx, hb, hml, hown, hts⟩ (c_X8_noTown l D cA a0 o0 (1 : Int32)  z1 hz1) (cwV 1 hts gX8_readAll_X8_noTown rfl rfl rfl hd_X8_noTown ⟨(Nat.le_of_ble_eq_true rfl), (Nat.le_of_ble_eq_true rfl)⟩) (recvK hK hP 0 8 rfl rfl) hK hP hD hS hA [0, 1, 2, 3, 4, 5, 6, 7, 8, 9, 10, 11, 12, 13, 14, 15, 16, 17, 18, 19, 20, 21, 22] [] [0, 1, 2, 3, 4, 5, 6, 7, 8, 9, 10, 11, 12, 13, 14, 15, 16, 17, 18, 19, 20, 21, 22] rfl rfl rfl rfl rfl rfl rfl rfl hl.1 rfl (Nat.le_of_ble_eq_true rfl) dX8_readAll_2 ⟨(Nat.le_of_ble_eq_true rfl), (Nat.le_of_ble_eq_true rfl)⟩ (fun H locs hP hD hS => ?_)
  refine lv_aload_n hx hb dX8_readAll_5 rfl (lv_at hl 0 rfl) ?_
  refine lv_iconst (v := (0 : Int32)) hx hb dX8_readAll_6 (by decide) ?_
  refine va_put (D := D) (ci := 8) (v := .int (0 : Int32)) (ty := .int) (C := RX8) (T := TX8) (N := 27) hx hb hts hinX8 tyX8 tyX8_ok nmX8 hown hK.1 hP hD hS 0 rfl rfl 20 (by decide) lkf92 (fun _ h9 => h9) rfl (by decide +kernel) rfl rfl (Nat.le_of_ble_eq_true rfl) dX8_readAll_7 (fun H locs hP hD hS => ?_)
  have hP : va_P D vwCl (wX8 cA a0 (sF z1 20 (0 : Int32))) H := hP
  have hD : va_D A (wX8 cA a0 (sF z1 20 (0 : Int32))) := hD
  obtain ⟨s2, es2⟩ : ∃ z, z = sF z1 20 (0 : Int32) := ⟨_, rfl⟩
  rw [← es2] at hP hD
  have h := nm_ap es2 h
  obtain ⟨z3, hz3, h⟩ := bd_some h
  refine LP10 512 s2 _ _ hP hD hS ls (lv_sub hl [0] rfl) _ hz3 ?_ ?_
  · intro H locs hP hD hS ls hl hi
    have h := if_t hi h
    refine lv_iload_n hx hb dX8_readAll_33 rfl (lv_at hl 0 rfl) ?_
    cases h
    exact hend _ _ _ _ hP hD hS dX8_readAll_34
  · intro H locs hP hD hS ls hl hi
    have h := if_f (by rw [hi]; decide) h
    refine lv_bipush (v := (-4 : Int32)) hx hb dX8_readAll_38 (by decide) ?_
    cases h
    exact hend _ _ _ _ hP hD hS dX8_readAll_40
abbrev rmX8_fault : Room := ({ frames := 4, cells := 0, slots := 0, locals := 93 } : Room)
set_option maxHeartbeats 4000000 in
set_option maxRecDepth 100000 in
theorem c_X8_fault (l : Launch) (D : va_G) (cA : ClassId) (a0 : (Nat → Nat)) (o0 : Ob) (r : Int32) (o0_ : Ob) (h : f_X8_fault o0 = some (r, o0_)) : ConW l yX8_fault wsX8_fault rmX8_fault D cA [.ref (a0 0)] (wX8 cA a0 o0) r (wX8 cA a0 o0_) := by
  refine ConW.enter (cc := cX8_fault) (maxL := 1) (by decide) rfl (Nat.le_of_ble_eq_true rfl) ?_
  intro p e s m args below meth c Q A hx hb hml hown hts hK hP hD hA hend ls hl
  have hS : va_S A s.heap s.heap [] := va_S.rf
  have hl : lv_has ls 1 [(0, .ref (a0 0))] := hl
  unfold f_X8_fault at h
  refine lv_aload_n hx hb dX8_fault_0 rfl (lv_at hl 0 rfl) ?_
  obtain ⟨z1, hz1, h⟩ := bd_some h
  refine cW_V (As := []) (rest := []) (wn := (wX8 cA a0 z1.2)) ⟨hx, hb, hml, hown, hts⟩ (c_X8_readAll l D cA a0 o0  z1.1 z1.2 hz1) (cwV 0 hts gX8_fault_X8_readAll rfl rfl rfl hd_X8_readAll ⟨(Nat.le_of_ble_eq_true rfl), (Nat.le_of_ble_eq_true rfl)⟩) (recvK hK hP 0 8 rfl rfl) hK hP hD hS hA [0, 1, 2, 3, 4, 5, 6, 7, 8, 9, 10, 11, 12, 13, 14, 15, 16, 17, 18, 19, 20, 21, 22] [] [0, 1, 2, 3, 4, 5, 6, 7, 8, 9, 10, 11, 12, 13, 14, 15, 16, 17, 18, 19, 20, 21, 22] rfl rfl rfl rfl rfl rfl rfl rfl hl.1 rfl (Nat.le_of_ble_eq_true rfl) dX8_fault_1 ⟨(Nat.le_of_ble_eq_true rfl), (Nat.le_of_ble_eq_true rfl)⟩ (fun H locs hP hD hS => ?_)
  cases h
  exact hend _ _ _ _ hP hD hS dX8_fault_4
abbrev rmX8_copy : Room := ({ frames := 0, cells := 0, slots := 0, locals := 0 } : Room)
set_option maxHeartbeats 4000000 in
set_option maxRecDepth 100000 in
theorem c_X8_copy (l : Launch) (D : va_G) (cA : ClassId) (a0 : (Nat → Nat)) (o0 : Ob) (x1 : Int32) (x2 : Int32) (o0_ : Ob) (h : f_X8_copy o0 x1 x2 = some o0_) : ConV l yX8_copy wsX8_copy rmX8_copy D cA [.ref (a0 0), .int x1, .int x2] (wX8 cA a0 o0) (wX8 cA a0 o0_) := by
  refine ConV.enter (cc := cX8_copy) (maxL := 4) (by decide) rfl (Nat.le_of_ble_eq_true rfl) ?_
  intro p e s m args below meth c Q A hx hb hml hown hts hK hP hD hA hend ls hl
  have hS : va_S A s.heap s.heap [] := va_S.rf
  have hl : lv_has ls 4 [(0, .ref (a0 0)), (1, .int x1), (2, .int x2)] := hl
  unfold f_X8_copy at h
  have lkf22 := hts (.fieldLink RX8 22 "TiedToTownModel" "many" "[I") (List.mem_of_getElem? (i := 1) rfl)
  have hinX8 : ∀ w ∈ wsX80, w ∈ wsX8_copy := fun w h => List.mem_cons_of_mem _ (List.mem_append_right _ h)
  have lkf40 := hts (.fieldLink RX8 40 "TiedToTownModel" "tied" "[I") (List.mem_of_getElem? (i := 2) rfl)
  have lkf43 := hts (.fieldLink RX8 43 "TiedToTownModel" "day" "[I") (List.mem_of_getElem? (i := 3) rfl)
  have lkf25 := hts (.fieldLink RX8 25 "TiedToTownModel" "ones" "[I") (List.mem_of_getElem? (i := 4) rfl)
  have lkf28 := hts (.fieldLink RX8 28 "TiedToTownModel" "others" "[I") (List.mem_of_getElem? (i := 5) rfl)
  have lkf31 := hts (.fieldLink RX8 31 "TiedToTownModel" "through" "[I") (List.mem_of_getElem? (i := 6) rfl)
  have lkf34 := hts (.fieldLink RX8 34 "TiedToTownModel" "due" "[I") (List.mem_of_getElem? (i := 7) rfl)
  have lkf37 := hts (.fieldLink RX8 37 "TiedToTownModel" "kinds" "[I") (List.mem_of_getElem? (i := 8) rfl)
  have LP38 : ∀ (x1 : Int32) (x2 : Int32) (n : Nat) (x3 : Int32) (o0 : Ob) (H : Heap) (locs : List Loc) (_ : va_P D vwCl (wX8 cA a0 o0) H) (_ : va_D A (wX8 cA a0 o0)) (_ : va_S A s.heap H locs) (ls : Array Slot) (_ : lv_has ls 4 [(0, .ref (a0 0)), (1, .int x1), (2, .int x2), (3, .int x3)]) (res : Ob) (_ : L_X8_copy_38 x1 x2 n x3 o0 = some res) (_ : (∀ (H : Heap) (locs : List Loc) (_ : va_P D vwCl (wX8 cA a0 res) H) (_ : va_D A (wX8 cA a0 res)) (_ : va_S A s.heap H locs) (ls : Array Slot), lv_has ls 4 [] → W p l e rmX8_copy s m args below meth c H locs 0 0 Q (F0 m 160 ls []))), W p l e rmX8_copy s m args below meth c H locs 0 0 Q (F0 m 38 ls []) := by
    intro x1 x2 n
    induction n with
    | zero =>
      intro x3 o0 H locs hP hD hS ls hl res h K0
      exact absurd h (fun q : (none : Option (Ob)) = some res => by cases q)
    | succ n ih =>
      intro x3 o0 H locs hP hD hS ls hl res h K0
      have h : L_X8_copy_38_step x1 x2 (L_X8_copy_38 x1 x2 n) x3 o0 = some res := h
      unfold L_X8_copy_38_step at h
      refine lv_iload_n hx hb dX8_copy_38 rfl (lv_at hl 3 rfl) ?_
      refine lv_bipush (v := (8 : Int32)) hx hb dX8_copy_39 (by decide) ?_
      refine lv_icmp_ge (tgt := 160) hx hb dX8_copy_41 (by decide) (fun hc => ?_) (fun hc => ?_)
      · have h := if_t hc h
        cases h
        exact K0 _ _ hP hD hS _ (lv_sub hl [] rfl)
      · have h := if_f hc h
        refine lv_aload_n hx hb dX8_copy_44 rfl (lv_at hl 0 rfl) ?_
        refine va_get (D := D) (ci := 8) (v := .ref (a0 7)) (C := RX8) (T := TX8) (N := 27) hx hb hts hinX8 hown hK.1 hP 0 rfl rfl 6 (by decide) lkf25 (fun _ h9 => h9) rfl dX8_copy_45 ?_
        refine lv_bipush (v := (8 : Int32)) hx hb dX8_copy_48 (by decide) ?_
        refine lv_iload_n hx hb dX8_copy_50 rfl (lv_at hl 2 rfl) ?_
        refine lv_imul hx hb dX8_copy_51 ?_
        refine lv_iload_n hx hb dX8_copy_52 rfl (lv_at hl 3 rfl) ?_
        refine lv_iadd hx hb dX8_copy_53 ?_
        refine lv_aload_n hx hb dX8_copy_54 rfl (lv_at hl 0 rfl) ?_
        refine va_get (D := D) (ci := 8) (v := .ref (a0 7)) (C := RX8) (T := TX8) (N := 27) hx hb hts hinX8 hown hK.1 hP 0 rfl rfl 6 (by decide) lkf25 (fun _ h9 => h9) rfl dX8_copy_55 ?_
        refine lv_bipush (v := (8 : Int32)) hx hb dX8_copy_58 (by decide) ?_
        refine lv_iload_n hx hb dX8_copy_60 rfl (lv_at hl 1 rfl) ?_
        refine lv_imul hx hb dX8_copy_61 ?_
        refine lv_iload_n hx hb dX8_copy_62 rfl (lv_at hl 3 rfl) ?_
        refine lv_iadd hx hb dX8_copy_63 ?_
        obtain ⟨hi1, h⟩ := gd_some h
        refine iald (q0 := 0) (t0 := 0) (j := (((8 : Int32) * x1) + x3).toNatClampNeg) hx hb hK hP 6 rfl rfl (ck_in hi1) dX8_copy_64 ?_
        obtain ⟨hi2, h⟩ := gd_some h
        refine iast (j := (((8 : Int32) * x2) + x3).toNatClampNeg) (wn := (wX8 cA a0 (sA o0 6 (((8 : Int32) * x2) + x3).toNatClampNeg (o0.2 6 (((8 : Int32) * x1) + x3).toNatClampNeg)))) hx hb hK hP hD hS 6 rfl rfl (ck_in hi2) dX8_copy_65 rfl (fun H locs hP hD hS => ?_)
        obtain ⟨s3, es3⟩ : ∃ z, z = sA o0 6 (((8 : Int32) * x2) + x3).toNatClampNeg (o0.2 6 (((8 : Int32) * x1) + x3).toNatClampNeg) := ⟨_, rfl⟩
        rw [← es3] at hP hD
        have h := nm_ap es3 h
        refine lv_aload_n hx hb dX8_copy_66 rfl (lv_at hl 0 rfl) ?_
        refine va_get (D := D) (ci := 8) (v := .ref (a0 8)) (C := RX8) (T := TX8) (N := 27) hx hb hts hinX8 hown hK.1 hP 0 rfl rfl 7 (by decide) lkf28 (fun _ h9 => h9) rfl dX8_copy_67 ?_
        refine lv_bipush (v := (8 : Int32)) hx hb dX8_copy_70 (by decide) ?_
        refine lv_iload_n hx hb dX8_copy_72 rfl (lv_at hl 2 rfl) ?_
        refine lv_imul hx hb dX8_copy_73 ?_
        refine lv_iload_n hx hb dX8_copy_74 rfl (lv_at hl 3 rfl) ?_
        refine lv_iadd hx hb dX8_copy_75 ?_
        refine lv_aload_n hx hb dX8_copy_76 rfl (lv_at hl 0 rfl) ?_
        refine va_get (D := D) (ci := 8) (v := .ref (a0 8)) (C := RX8) (T := TX8) (N := 27) hx hb hts hinX8 hown hK.1 hP 0 rfl rfl 7 (by decide) lkf28 (fun _ h9 => h9) rfl dX8_copy_77 ?_
        refine lv_bipush (v := (8 : Int32)) hx hb dX8_copy_80 (by decide) ?_
        refine lv_iload_n hx hb dX8_copy_82 rfl (lv_at hl 1 rfl) ?_
        refine lv_imul hx hb dX8_copy_83 ?_
        refine lv_iload_n hx hb dX8_copy_84 rfl (lv_at hl 3 rfl) ?_
        refine lv_iadd hx hb dX8_copy_85 ?_
        refine iald (q0 := 0) (t0 := 0) (j := (((8 : Int32) * x1) + x3).toNatClampNeg) hx hb hK hP 7 rfl rfl (ck_in hi1) dX8_copy_86 ?_
        refine iast (j := (((8 : Int32) * x2) + x3).toNatClampNeg) (wn := (wX8 cA a0 (sA s3 7 (((8 : Int32) * x2) + x3).toNatClampNeg (s3.2 7 (((8 : Int32) * x1) + x3).toNatClampNeg)))) hx hb hK hP hD hS 7 rfl rfl (ck_in hi2) dX8_copy_87 rfl (fun H locs hP hD hS => ?_)
        obtain ⟨s4, es4⟩ : ∃ z, z = sA s3 7 (((8 : Int32) * x2) + x3).toNatClampNeg (s3.2 7 (((8 : Int32) * x1) + x3).toNatClampNeg) := ⟨_, rfl⟩
        rw [← es4] at hP hD
        have h := nm_ap es4 h
        refine lv_aload_n hx hb dX8_copy_88 rfl (lv_at hl 0 rfl) ?_
        refine va_get (D := D) (ci := 8) (v := .ref (a0 9)) (C := RX8) (T := TX8) (N := 27) hx hb hts hinX8 hown hK.1 hP 0 rfl rfl 8 (by decide) lkf31 (fun _ h9 => h9) rfl dX8_copy_89 ?_
        refine lv_bipush (v := (8 : Int32)) hx hb dX8_copy_92 (by decide) ?_
        refine lv_iload_n hx hb dX8_copy_94 rfl (lv_at hl 2 rfl) ?_
        refine lv_imul hx hb dX8_copy_95 ?_
        refine lv_iload_n hx hb dX8_copy_96 rfl (lv_at hl 3 rfl) ?_
        refine lv_iadd hx hb dX8_copy_97 ?_
        refine lv_aload_n hx hb dX8_copy_98 rfl (lv_at hl 0 rfl) ?_
        refine va_get (D := D) (ci := 8) (v := .ref (a0 9)) (C := RX8) (T := TX8) (N := 27) hx hb hts hinX8 hown hK.1 hP 0 rfl rfl 8 (by decide) lkf31 (fun _ h9 => h9) rfl dX8_copy_99 ?_
        refine lv_bipush (v := (8 : Int32)) hx hb dX8_copy_102 (by decide) ?_
        refine lv_iload_n hx hb dX8_copy_104 rfl (lv_at hl 1 rfl) ?_
        refine lv_imul hx hb dX8_copy_105 ?_
        refine lv_iload_n hx hb dX8_copy_106 rfl (lv_at hl 3 rfl) ?_
        refine lv_iadd hx hb dX8_copy_107 ?_
        refine iald (q0 := 0) (t0 := 0) (j := (((8 : Int32) * x1) + x3).toNatClampNeg) hx hb hK hP 8 rfl rfl (ck_in hi1) dX8_copy_108 ?_
        refine iast (j := (((8 : Int32) * x2) + x3).toNatClampNeg) (wn := (wX8 cA a0 (sA s4 8 (((8 : Int32) * x2) + x3).toNatClampNeg (s4.2 8 (((8 : Int32) * x1) + x3).toNatClampNeg)))) hx hb hK hP hD hS 8 rfl rfl (ck_in hi2) dX8_copy_109 rfl (fun H locs hP hD hS => ?_)
        obtain ⟨s5, es5⟩ : ∃ z, z = sA s4 8 (((8 : Int32) * x2) + x3).toNatClampNeg (s4.2 8 (((8 : Int32) * x1) + x3).toNatClampNeg) := ⟨_, rfl⟩
        rw [← es5] at hP hD
        have h := nm_ap es5 h
        refine lv_aload_n hx hb dX8_copy_110 rfl (lv_at hl 0 rfl) ?_
        refine va_get (D := D) (ci := 8) (v := .ref (a0 10)) (C := RX8) (T := TX8) (N := 27) hx hb hts hinX8 hown hK.1 hP 0 rfl rfl 9 (by decide) lkf34 (fun _ h9 => h9) rfl dX8_copy_111 ?_
        refine lv_bipush (v := (8 : Int32)) hx hb dX8_copy_114 (by decide) ?_
        refine lv_iload_n hx hb dX8_copy_116 rfl (lv_at hl 2 rfl) ?_
        refine lv_imul hx hb dX8_copy_117 ?_
        refine lv_iload_n hx hb dX8_copy_118 rfl (lv_at hl 3 rfl) ?_
        refine lv_iadd hx hb dX8_copy_119 ?_
        refine lv_aload_n hx hb dX8_copy_120 rfl (lv_at hl 0 rfl) ?_
        refine va_get (D := D) (ci := 8) (v := .ref (a0 10)) (C := RX8) (T := TX8) (N := 27) hx hb hts hinX8 hown hK.1 hP 0 rfl rfl 9 (by decide) lkf34 (fun _ h9 => h9) rfl dX8_copy_121 ?_
        refine lv_bipush (v := (8 : Int32)) hx hb dX8_copy_124 (by decide) ?_
        refine lv_iload_n hx hb dX8_copy_126 rfl (lv_at hl 1 rfl) ?_
        refine lv_imul hx hb dX8_copy_127 ?_
        refine lv_iload_n hx hb dX8_copy_128 rfl (lv_at hl 3 rfl) ?_
        refine lv_iadd hx hb dX8_copy_129 ?_
        refine iald (q0 := 0) (t0 := 0) (j := (((8 : Int32) * x1) + x3).toNatClampNeg) hx hb hK hP 9 rfl rfl (ck_in hi1) dX8_copy_130 ?_
        refine iast (j := (((8 : Int32) * x2) + x3).toNatClampNeg) (wn := (wX8 cA a0 (sA s5 9 (((8 : Int32) * x2) + x3).toNatClampNeg (s5.2 9 (((8 : Int32) * x1) + x3).toNatClampNeg)))) hx hb hK hP hD hS 9 rfl rfl (ck_in hi2) dX8_copy_131 rfl (fun H locs hP hD hS => ?_)
        obtain ⟨s6, es6⟩ : ∃ z, z = sA s5 9 (((8 : Int32) * x2) + x3).toNatClampNeg (s5.2 9 (((8 : Int32) * x1) + x3).toNatClampNeg) := ⟨_, rfl⟩
        rw [← es6] at hP hD
        have h := nm_ap es6 h
        refine lv_aload_n hx hb dX8_copy_132 rfl (lv_at hl 0 rfl) ?_
        refine va_get (D := D) (ci := 8) (v := .ref (a0 11)) (C := RX8) (T := TX8) (N := 27) hx hb hts hinX8 hown hK.1 hP 0 rfl rfl 10 (by decide) lkf37 (fun _ h9 => h9) rfl dX8_copy_133 ?_
        refine lv_bipush (v := (8 : Int32)) hx hb dX8_copy_136 (by decide) ?_
        refine lv_iload_n hx hb dX8_copy_138 rfl (lv_at hl 2 rfl) ?_
        refine lv_imul hx hb dX8_copy_139 ?_
        refine lv_iload_n hx hb dX8_copy_140 rfl (lv_at hl 3 rfl) ?_
        refine lv_iadd hx hb dX8_copy_141 ?_
        refine lv_aload_n hx hb dX8_copy_142 rfl (lv_at hl 0 rfl) ?_
        refine va_get (D := D) (ci := 8) (v := .ref (a0 11)) (C := RX8) (T := TX8) (N := 27) hx hb hts hinX8 hown hK.1 hP 0 rfl rfl 10 (by decide) lkf37 (fun _ h9 => h9) rfl dX8_copy_143 ?_
        refine lv_bipush (v := (8 : Int32)) hx hb dX8_copy_146 (by decide) ?_
        refine lv_iload_n hx hb dX8_copy_148 rfl (lv_at hl 1 rfl) ?_
        refine lv_imul hx hb dX8_copy_149 ?_
        refine lv_iload_n hx hb dX8_copy_150 rfl (lv_at hl 3 rfl) ?_
        refine lv_iadd hx hb dX8_copy_151 ?_
        refine iald (q0 := 0) (t0 := 0) (j := (((8 : Int32) * x1) + x3).toNatClampNeg) hx hb hK hP 10 rfl rfl (ck_in hi1) dX8_copy_152 ?_
        refine iast (j := (((8 : Int32) * x2) + x3).toNatClampNeg) (wn := (wX8 cA a0 (sA s6 10 (((8 : Int32) * x2) + x3).toNatClampNeg (s6.2 10 (((8 : Int32) * x1) + x3).toNatClampNeg)))) hx hb hK hP hD hS 10 rfl rfl (ck_in hi2) dX8_copy_153 rfl (fun H locs hP hD hS => ?_)
        obtain ⟨s7, es7⟩ : ∃ z, z = sA s6 10 (((8 : Int32) * x2) + x3).toNatClampNeg (s6.2 10 (((8 : Int32) * x1) + x3).toNatClampNeg) := ⟨_, rfl⟩
        rw [← es7] at hP hD
        have h := nm_ap es7 h
        obtain ⟨v8, ev8⟩ : ∃ y : Int32, y = x3 + (1 : Int32) := ⟨_, rfl⟩
        refine lv_iinc (v := v8) (lv' := [(3, .int v8), (0, .ref (a0 0)), (1, .int x1), (2, .int x2)]) hx hb dX8_copy_154 hl (k := 3) rfl (by rw [ev8]; rfl) (by decide) rfl (fun ls hl => ?_)
        have h := nm_ap ev8 h
        refine lv_goto (tgt := 38) hx hb dX8_copy_157 (by decide) ?_
        exact ih v8 s7 _ _ hP hD hS ls (lv_sub hl [1, 2, 3, 0] rfl) _ h K0
  refine lv_aload_n hx hb dX8_copy_0 rfl (lv_at hl 0 rfl) ?_
  refine va_get (D := D) (ci := 8) (v := .ref (a0 6)) (C := RX8) (T := TX8) (N := 27) hx hb hts hinX8 hown hK.1 hP 0 rfl rfl 5 (by decide) lkf22 (fun _ h9 => h9) rfl dX8_copy_1 ?_
  refine lv_iload_n hx hb dX8_copy_4 rfl (lv_at hl 2 rfl) ?_
  refine lv_aload_n hx hb dX8_copy_5 rfl (lv_at hl 0 rfl) ?_
  refine va_get (D := D) (ci := 8) (v := .ref (a0 6)) (C := RX8) (T := TX8) (N := 27) hx hb hts hinX8 hown hK.1 hP 0 rfl rfl 5 (by decide) lkf22 (fun _ h9 => h9) rfl dX8_copy_6 ?_
  refine lv_iload_n hx hb dX8_copy_9 rfl (lv_at hl 1 rfl) ?_
  obtain ⟨hi1, h⟩ := gd_some h
  refine iald (q0 := 0) (t0 := 0) (j := x1.toNatClampNeg) hx hb hK hP 5 rfl rfl (ck_in hi1) dX8_copy_10 ?_
  obtain ⟨hi2, h⟩ := gd_some h
  refine iast (j := x2.toNatClampNeg) (wn := (wX8 cA a0 (sA o0 5 x2.toNatClampNeg (o0.2 5 x1.toNatClampNeg)))) hx hb hK hP hD hS 5 rfl rfl (ck_in hi2) dX8_copy_11 rfl (fun H locs hP hD hS => ?_)
  obtain ⟨s3, es3⟩ : ∃ z, z = sA o0 5 x2.toNatClampNeg (o0.2 5 x1.toNatClampNeg) := ⟨_, rfl⟩
  rw [← es3] at hP hD
  have h := nm_ap es3 h
  refine lv_aload_n hx hb dX8_copy_12 rfl (lv_at hl 0 rfl) ?_
  refine va_get (D := D) (ci := 8) (v := .ref (a0 12)) (C := RX8) (T := TX8) (N := 27) hx hb hts hinX8 hown hK.1 hP 0 rfl rfl 11 (by decide) lkf40 (fun _ h9 => h9) rfl dX8_copy_13 ?_
  refine lv_iload_n hx hb dX8_copy_16 rfl (lv_at hl 2 rfl) ?_
  refine lv_aload_n hx hb dX8_copy_17 rfl (lv_at hl 0 rfl) ?_
  refine va_get (D := D) (ci := 8) (v := .ref (a0 12)) (C := RX8) (T := TX8) (N := 27) hx hb hts hinX8 hown hK.1 hP 0 rfl rfl 11 (by decide) lkf40 (fun _ h9 => h9) rfl dX8_copy_18 ?_
  refine lv_iload_n hx hb dX8_copy_21 rfl (lv_at hl 1 rfl) ?_
  refine iald (q0 := 0) (t0 := 0) (j := x1.toNatClampNeg) hx hb hK hP 11 rfl rfl (ck_in hi1) dX8_copy_22 ?_
  refine iast (j := x2.toNatClampNeg) (wn := (wX8 cA a0 (sA s3 11 x2.toNatClampNeg (s3.2 11 x1.toNatClampNeg)))) hx hb hK hP hD hS 11 rfl rfl (ck_in hi2) dX8_copy_23 rfl (fun H locs hP hD hS => ?_)
  obtain ⟨s4, es4⟩ : ∃ z, z = sA s3 11 x2.toNatClampNeg (s3.2 11 x1.toNatClampNeg) := ⟨_, rfl⟩
  rw [← es4] at hP hD
  have h := nm_ap es4 h
  refine lv_aload_n hx hb dX8_copy_24 rfl (lv_at hl 0 rfl) ?_
  refine va_get (D := D) (ci := 8) (v := .ref (a0 13)) (C := RX8) (T := TX8) (N := 27) hx hb hts hinX8 hown hK.1 hP 0 rfl rfl 12 (by decide) lkf43 (fun _ h9 => h9) rfl dX8_copy_25 ?_
  refine lv_iload_n hx hb dX8_copy_28 rfl (lv_at hl 2 rfl) ?_
  refine lv_aload_n hx hb dX8_copy_29 rfl (lv_at hl 0 rfl) ?_
  refine va_get (D := D) (ci := 8) (v := .ref (a0 13)) (C := RX8) (T := TX8) (N := 27) hx hb hts hinX8 hown hK.1 hP 0 rfl rfl 12 (by decide) lkf43 (fun _ h9 => h9) rfl dX8_copy_30 ?_
  refine lv_iload_n hx hb dX8_copy_33 rfl (lv_at hl 1 rfl) ?_
  refine iald (q0 := 0) (t0 := 0) (j := x1.toNatClampNeg) hx hb hK hP 12 rfl rfl (ck_in hi1) dX8_copy_34 ?_
  refine iast (j := x2.toNatClampNeg) (wn := (wX8 cA a0 (sA s4 12 x2.toNatClampNeg (s4.2 12 x1.toNatClampNeg)))) hx hb hK hP hD hS 12 rfl rfl (ck_in hi2) dX8_copy_35 rfl (fun H locs hP hD hS => ?_)
  obtain ⟨s5, es5⟩ : ∃ z, z = sA s4 12 x2.toNatClampNeg (s4.2 12 x1.toNatClampNeg) := ⟨_, rfl⟩
  rw [← es5] at hP hD
  have h := nm_ap es5 h
  refine lv_iconst (v := (0 : Int32)) hx hb dX8_copy_36 (by decide) ?_
  refine lv_istore_n (lv' := [(3, .int (0 : Int32)), (0, .ref (a0 0)), (1, .int x1), (2, .int x2)]) hx hb dX8_copy_37 rfl hl (by decide) rfl (fun ls hl => ?_)
  obtain ⟨z6, hz6, h⟩ := bd_some h
  refine LP38 x1 x2 512 (0 : Int32) s5 _ _ hP hD hS ls (lv_sub hl [1, 2, 3, 0] rfl) _ hz6 ?_
  · intro H locs hP hD hS ls hl
    cases h
    exact hend _ _ _ _ hP hD hS dX8_copy_160
abbrev rmX8_lay : Room := ({ frames := 4, cells := 0, slots := 0, locals := 93 } : Room)
set_option maxHeartbeats 4000000 in
set_option maxRecDepth 100000 in
theorem c_X8_lay (l : Launch) (D : va_G) (cA : ClassId) (a0 : (Nat → Nat)) (o0 : Ob) (r : Int32) (o0_ : Ob) (h : f_X8_lay o0 = some (r, o0_)) : ConW l yX8_lay wsX8_lay rmX8_lay D cA [.ref (a0 0)] (wX8 cA a0 o0) r (wX8 cA a0 o0_) := by
  refine ConW.enter (cc := cX8_lay) (maxL := 1) (by decide) rfl (Nat.le_of_ble_eq_true rfl) ?_
  intro p e s m args below meth c Q A hx hb hml hown hts hK hP hD hA hend ls hl
  have hS : va_S A s.heap s.heap [] := va_S.rf
  have hl : lv_has ls 1 [(0, .ref (a0 0))] := hl
  unfold f_X8_lay at h
  have lkf22 := hts (.fieldLink RX8 22 "TiedToTownModel" "many" "[I") (List.mem_of_getElem? (i := 1) rfl)
  have hinX8 : ∀ w ∈ wsX80, w ∈ wsX8_lay := fun w h => List.mem_cons_of_mem _ (List.mem_append_right _ h)
  have lkf13 := hts (.fieldLink RX8 13 "TiedToTownModel" "personMany" "[I") (List.mem_of_getElem? (i := 2) rfl)
  have lkf16 := hts (.fieldLink RX8 16 "TiedToTownModel" "alive" "[I") (List.mem_of_getElem? (i := 3) rfl)
  have lkf19 := hts (.fieldLink RX8 19 "TiedToTownModel" "law" "[I") (List.mem_of_getElem? (i := 4) rfl)
  have lkf131 := hts (.fieldLink RX8 131 "TiedToTownModel" "keptMany" "I") (List.mem_of_getElem? (i := 5) rfl)
  have lkf134 := hts (.fieldLink RX8 134 "TiedToTownModel" "doneMany" "I") (List.mem_of_getElem? (i := 6) rfl)
  have lkf137 := hts (.fieldLink RX8 137 "TiedToTownModel" "rowMany" "I") (List.mem_of_getElem? (i := 7) rfl)
  have lkf52 := hts (.fieldLink RX8 52 "TiedToTownModel" "ropeMany" "[I") (List.mem_of_getElem? (i := 8) rfl)
  refine lv_aload_n hx hb dX8_lay_0 rfl (lv_at hl 0 rfl) ?_
  obtain ⟨z1, hz1, h⟩ := bd_some h
  refine cW_V (As := []) (rest := []) (wn := (wX8 cA a0 z1.2)) ⟨hx, hb, hml, hown, hts⟩ (c_X8_readAll l D cA a0 o0  z1.1 z1.2 hz1) (cwV 0 hts gX8_lay_X8_readAll rfl rfl rfl hd_X8_readAll ⟨(Nat.le_of_ble_eq_true rfl), (Nat.le_of_ble_eq_true rfl)⟩) (recvK hK hP 0 8 rfl rfl) hK hP hD hS hA [0, 1, 2, 3, 4, 5, 6, 7, 8, 9, 10, 11, 12, 13, 14, 15, 16, 17, 18, 19, 20, 21, 22] [] [0, 1, 2, 3, 4, 5, 6, 7, 8, 9, 10, 11, 12, 13, 14, 15, 16, 17, 18, 19, 20, 21, 22] rfl rfl rfl rfl rfl rfl rfl rfl hl.1 rfl (Nat.le_of_ble_eq_true rfl) dX8_lay_1 ⟨(Nat.le_of_ble_eq_true rfl), (Nat.le_of_ble_eq_true rfl)⟩ (fun H locs hP hD hS => ?_)
  refine lv_bipush (v := (-4 : Int32)) hx hb dX8_lay_4 (by decide) ?_
  refine lv_icmp_ne (tgt := 18) hx hb dX8_lay_6 (by decide) (fun hc => ?_) (fun hc => ?_)
  · have h := if_f hc h
    refine lv_bipush (v := (-2 : Int32)) hx hb dX8_lay_18 (by decide) ?_
    cases h
    exact hend _ _ _ _ hP hD hS dX8_lay_20
  · have h := if_t hc h
    refine lv_aload_n hx hb dX8_lay_9 rfl (lv_at hl 0 rfl) ?_
    refine va_get (D := D) (ci := 8) (v := .ref (a0 6)) (C := RX8) (T := TX8) (N := 27) hx hb hts hinX8 hown hK.1 hP 0 rfl rfl 5 (by decide) lkf22 (fun _ h9 => h9) rfl dX8_lay_10 ?_
    refine lv_iconst (v := (1 : Int32)) hx hb dX8_lay_13 (by decide) ?_
    refine iald (q0 := 0) (t0 := 0) (j := 1) hx hb hK hP 5 rfl rfl (vp_in_iff.mpr (by decide)) dX8_lay_14 ?_
    refine lv_if_ne (tgt := 21) hx hb dX8_lay_15 (by decide) (fun hc => ?_) (fun hc => ?_)
    · have h := if_f hc h
      refine lv_aload_n hx hb dX8_lay_21 rfl (lv_at hl 0 rfl) ?_
      refine va_get (D := D) (ci := 8) (v := .ref (a0 3)) (C := RX8) (T := TX8) (N := 27) hx hb hts hinX8 hown hK.1 hP 0 rfl rfl 2 (by decide) lkf13 (fun _ h9 => h9) rfl dX8_lay_22 ?_
      refine lv_iconst (v := (0 : Int32)) hx hb dX8_lay_25 (by decide) ?_
      refine lv_aload_n hx hb dX8_lay_26 rfl (lv_at hl 0 rfl) ?_
      refine va_get (D := D) (ci := 8) (v := .ref (a0 3)) (C := RX8) (T := TX8) (N := 27) hx hb hts hinX8 hown hK.1 hP 0 rfl rfl 2 (by decide) lkf13 (fun _ h9 => h9) rfl dX8_lay_27 ?_
      refine lv_iconst (v := (1 : Int32)) hx hb dX8_lay_30 (by decide) ?_
      refine iald (q0 := 0) (t0 := 0) (j := 1) hx hb hK hP 2 rfl rfl (vp_in_iff.mpr (by decide)) dX8_lay_31 ?_
      refine iast (j := 0) (wn := (wX8 cA a0 (sA z1.2 2 0 (z1.2.2 2 1)))) hx hb hK hP hD hS 2 rfl rfl (vp_in_iff.mpr (by decide)) dX8_lay_32 rfl (fun H locs hP hD hS => ?_)
      obtain ⟨s2, es2⟩ : ∃ z, z = sA z1.2 2 0 (z1.2.2 2 1) := ⟨_, rfl⟩
      rw [← es2] at hP hD
      have h := nm_ap es2 h
      refine lv_aload_n hx hb dX8_lay_33 rfl (lv_at hl 0 rfl) ?_
      refine va_get (D := D) (ci := 8) (v := .ref (a0 4)) (C := RX8) (T := TX8) (N := 27) hx hb hts hinX8 hown hK.1 hP 0 rfl rfl 3 (by decide) lkf16 (fun _ h9 => h9) rfl dX8_lay_34 ?_
      refine lv_iconst (v := (0 : Int32)) hx hb dX8_lay_37 (by decide) ?_
      refine lv_aload_n hx hb dX8_lay_38 rfl (lv_at hl 0 rfl) ?_
      refine va_get (D := D) (ci := 8) (v := .ref (a0 4)) (C := RX8) (T := TX8) (N := 27) hx hb hts hinX8 hown hK.1 hP 0 rfl rfl 3 (by decide) lkf16 (fun _ h9 => h9) rfl dX8_lay_39 ?_
      refine lv_iconst (v := (1 : Int32)) hx hb dX8_lay_42 (by decide) ?_
      refine iald (q0 := 0) (t0 := 0) (j := 1) hx hb hK hP 3 rfl rfl (vp_in_iff.mpr (by decide)) dX8_lay_43 ?_
      refine iast (j := 0) (wn := (wX8 cA a0 (sA s2 3 0 (s2.2 3 1)))) hx hb hK hP hD hS 3 rfl rfl (vp_in_iff.mpr (by decide)) dX8_lay_44 rfl (fun H locs hP hD hS => ?_)
      obtain ⟨s3, es3⟩ : ∃ z, z = sA s2 3 0 (s2.2 3 1) := ⟨_, rfl⟩
      rw [← es3] at hP hD
      have h := nm_ap es3 h
      refine lv_aload_n hx hb dX8_lay_45 rfl (lv_at hl 0 rfl) ?_
      refine va_get (D := D) (ci := 8) (v := .ref (a0 5)) (C := RX8) (T := TX8) (N := 27) hx hb hts hinX8 hown hK.1 hP 0 rfl rfl 4 (by decide) lkf19 (fun _ h9 => h9) rfl dX8_lay_46 ?_
      refine lv_iconst (v := (0 : Int32)) hx hb dX8_lay_49 (by decide) ?_
      refine lv_aload_n hx hb dX8_lay_50 rfl (lv_at hl 0 rfl) ?_
      refine va_get (D := D) (ci := 8) (v := .ref (a0 5)) (C := RX8) (T := TX8) (N := 27) hx hb hts hinX8 hown hK.1 hP 0 rfl rfl 4 (by decide) lkf19 (fun _ h9 => h9) rfl dX8_lay_51 ?_
      refine lv_iconst (v := (1 : Int32)) hx hb dX8_lay_54 (by decide) ?_
      refine iald (q0 := 0) (t0 := 0) (j := 1) hx hb hK hP 4 rfl rfl (vp_in_iff.mpr (by decide)) dX8_lay_55 ?_
      refine iast (j := 0) (wn := (wX8 cA a0 (sA s3 4 0 (s3.2 4 1)))) hx hb hK hP hD hS 4 rfl rfl (vp_in_iff.mpr (by decide)) dX8_lay_56 rfl (fun H locs hP hD hS => ?_)
      obtain ⟨s4, es4⟩ : ∃ z, z = sA s3 4 0 (s3.2 4 1) := ⟨_, rfl⟩
      rw [← es4] at hP hD
      have h := nm_ap es4 h
      refine lv_aload_n hx hb dX8_lay_57 rfl (lv_at hl 0 rfl) ?_
      refine lv_iconst (v := (1 : Int32)) hx hb dX8_lay_58 (by decide) ?_
      refine lv_iconst (v := (0 : Int32)) hx hb dX8_lay_59 (by decide) ?_
      obtain ⟨z5, hz5, h⟩ := bd_some h
      refine cV_V (As := [.int (1 : Int32), .int (0 : Int32)]) (rest := []) (wn := (wX8 cA a0 z5)) ⟨hx, hb, hml, hown, hts⟩ (c_X8_copy l D cA a0 s4 (1 : Int32) (0 : Int32)  z5 hz5) (cwV 2 hts gX8_lay_X8_copy rfl rfl rfl hd_X8_copy ⟨(Nat.le_of_ble_eq_true rfl), (Nat.le_of_ble_eq_true rfl)⟩) (recvK hK hP 0 8 rfl rfl) hK hP hD hS hA [0, 1, 2, 3, 4, 5, 6, 7, 8, 9, 10, 11, 12, 13, 14, 15, 16, 17, 18, 19, 20, 21, 22] [] [0, 1, 2, 3, 4, 5, 6, 7, 8, 9, 10, 11, 12, 13, 14, 15, 16, 17, 18, 19, 20, 21, 22] rfl rfl rfl rfl rfl rfl rfl rfl hl.1 rfl (Nat.le_of_ble_eq_true rfl) dX8_lay_60 ⟨(Nat.le_of_ble_eq_true rfl), (Nat.le_of_ble_eq_true rfl)⟩ (fun H locs hP hD hS => ?_)
      refine lv_aload_n hx hb dX8_lay_63 rfl (lv_at hl 0 rfl) ?_
      refine lv_iconst (v := (0 : Int32)) hx hb dX8_lay_64 (by decide) ?_
      refine va_put (D := D) (ci := 8) (v := .int (0 : Int32)) (ty := .int) (C := RX8) (T := TX8) (N := 27) hx hb hts hinX8 tyX8 tyX8_ok nmX8 hown hK.1 hP hD hS 0 rfl rfl 13 (by decide) lkf131 (fun _ h9 => h9) rfl (by decide +kernel) rfl rfl (Nat.le_of_ble_eq_true rfl) dX8_lay_65 (fun H locs hP hD hS => ?_)
      have hP : va_P D vwCl (wX8 cA a0 (sF z5 13 (0 : Int32))) H := hP
      have hD : va_D A (wX8 cA a0 (sF z5 13 (0 : Int32))) := hD
      obtain ⟨s6, es6⟩ : ∃ z, z = sF z5 13 (0 : Int32) := ⟨_, rfl⟩
      rw [← es6] at hP hD
      have h := nm_ap es6 h
      refine lv_aload_n hx hb dX8_lay_68 rfl (lv_at hl 0 rfl) ?_
      refine lv_iconst (v := (0 : Int32)) hx hb dX8_lay_69 (by decide) ?_
      refine va_put (D := D) (ci := 8) (v := .int (0 : Int32)) (ty := .int) (C := RX8) (T := TX8) (N := 27) hx hb hts hinX8 tyX8 tyX8_ok nmX8 hown hK.1 hP hD hS 0 rfl rfl 14 (by decide) lkf134 (fun _ h9 => h9) rfl (by decide +kernel) rfl rfl (Nat.le_of_ble_eq_true rfl) dX8_lay_70 (fun H locs hP hD hS => ?_)
      have hP : va_P D vwCl (wX8 cA a0 (sF s6 14 (0 : Int32))) H := hP
      have hD : va_D A (wX8 cA a0 (sF s6 14 (0 : Int32))) := hD
      obtain ⟨s7, es7⟩ : ∃ z, z = sF s6 14 (0 : Int32) := ⟨_, rfl⟩
      rw [← es7] at hP hD
      have h := nm_ap es7 h
      refine lv_aload_n hx hb dX8_lay_73 rfl (lv_at hl 0 rfl) ?_
      refine lv_iconst (v := (0 : Int32)) hx hb dX8_lay_74 (by decide) ?_
      refine va_put (D := D) (ci := 8) (v := .int (0 : Int32)) (ty := .int) (C := RX8) (T := TX8) (N := 27) hx hb hts hinX8 tyX8 tyX8_ok nmX8 hown hK.1 hP hD hS 0 rfl rfl 16 (by decide) lkf137 (fun _ h9 => h9) rfl (by decide +kernel) rfl rfl (Nat.le_of_ble_eq_true rfl) dX8_lay_75 (fun H locs hP hD hS => ?_)
      have hP : va_P D vwCl (wX8 cA a0 (sF s7 16 (0 : Int32))) H := hP
      have hD : va_D A (wX8 cA a0 (sF s7 16 (0 : Int32))) := hD
      obtain ⟨s8, es8⟩ : ∃ z, z = sF s7 16 (0 : Int32) := ⟨_, rfl⟩
      rw [← es8] at hP hD
      have h := nm_ap es8 h
      refine lv_aload_n hx hb dX8_lay_78 rfl (lv_at hl 0 rfl) ?_
      refine va_get (D := D) (ci := 8) (v := .ref (a0 19)) (C := RX8) (T := TX8) (N := 27) hx hb hts hinX8 hown hK.1 hP 0 rfl rfl 18 (by decide) lkf52 (fun _ h9 => h9) rfl dX8_lay_79 ?_
      refine lv_iconst (v := (0 : Int32)) hx hb dX8_lay_82 (by decide) ?_
      refine lv_iconst (v := (0 : Int32)) hx hb dX8_lay_83 (by decide) ?_
      refine iast (j := 0) (wn := (wX8 cA a0 (sA s8 18 0 (0 : Int32)))) hx hb hK hP hD hS 15 rfl rfl (vp_in_iff.mpr (by decide)) dX8_lay_84 rfl (fun H locs hP hD hS => ?_)
      obtain ⟨s9, es9⟩ : ∃ z, z = sA s8 18 0 (0 : Int32) := ⟨_, rfl⟩
      rw [← es9] at hP hD
      have h := nm_ap es9 h
      refine lv_aload_n hx hb dX8_lay_85 rfl (lv_at hl 0 rfl) ?_
      refine va_get (D := D) (ci := 8) (v := .ref (a0 19)) (C := RX8) (T := TX8) (N := 27) hx hb hts hinX8 hown hK.1 hP 0 rfl rfl 18 (by decide) lkf52 (fun _ h9 => h9) rfl dX8_lay_86 ?_
      refine lv_iconst (v := (1 : Int32)) hx hb dX8_lay_89 (by decide) ?_
      refine lv_iconst (v := (0 : Int32)) hx hb dX8_lay_90 (by decide) ?_
      refine iast (j := 1) (wn := (wX8 cA a0 (sA s9 18 1 (0 : Int32)))) hx hb hK hP hD hS 15 rfl rfl (vp_in_iff.mpr (by decide)) dX8_lay_91 rfl (fun H locs hP hD hS => ?_)
      obtain ⟨s10, es10⟩ : ∃ z, z = sA s9 18 1 (0 : Int32) := ⟨_, rfl⟩
      rw [← es10] at hP hD
      have h := nm_ap es10 h
      refine lv_aload_n hx hb dX8_lay_92 rfl (lv_at hl 0 rfl) ?_
      refine va_get (D := D) (ci := 8) (v := .ref (a0 6)) (C := RX8) (T := TX8) (N := 27) hx hb hts hinX8 hown hK.1 hP 0 rfl rfl 5 (by decide) lkf22 (fun _ h9 => h9) rfl dX8_lay_93 ?_
      refine lv_iconst (v := (0 : Int32)) hx hb dX8_lay_96 (by decide) ?_
      refine iald (q0 := 0) (t0 := 0) (j := 0) hx hb hK hP 5 rfl rfl (vp_in_iff.mpr (by decide)) dX8_lay_97 ?_
      cases h
      exact hend _ _ _ _ hP hD hS dX8_lay_98
    · have h := if_t hc h
      refine lv_bipush (v := (-2 : Int32)) hx hb dX8_lay_18 (by decide) ?_
      cases h
      exact hend _ _ _ _ hP hD hS dX8_lay_20
abbrev rmX8_isThere : Room := ({ frames := 1, cells := 0, slots := 0, locals := 25 } : Room)
set_option maxHeartbeats 4000000 in
set_option maxRecDepth 100000 in
theorem c_X8_isThere (l : Launch) (D : va_G) (cA : ClassId) (a0 : (Nat → Nat)) (o0 : Ob) (x1 : Int32) (r : Int32) (h : f_X8_isThere o0 x1 = some r) : ConR l yX8_isThere wsX8_isThere rmX8_isThere D cA [.ref (a0 0), .int x1] (wX8 cA a0 o0) r := by
  refine ConZ.enter (cc := cX8_isThere) (maxL := 2) (by decide) rfl (Nat.le_of_ble_eq_true rfl) ?_
  intro p e s m args below meth c Q hx hb hml hown hts hK hP  hend ls hl
  have hl : lv_has ls 2 [(0, .ref (a0 0)), (1, .int x1)] := hl
  unfold f_X8_isThere at h
  have lkf22 := hts (.fieldLink RX8 22 "TiedToTownModel" "many" "[I") (List.mem_of_getElem? (i := 1) rfl)
  have hinX8 : ∀ w ∈ wsX80, w ∈ wsX8_isThere := fun w h => List.mem_cons_of_mem _ (List.mem_append_right _ h)
  refine lv_iload_n hx hb dX8_isThere_0 rfl (lv_at hl 1 rfl) ?_
  refine lv_i2l hx hb dX8_isThere_1 rfl ?_
  refine lv_lconst (v := (0 : Int64)) hx hb dX8_isThere_2 (by decide) ?_
  refine lv_aload_n hx hb dX8_isThere_3 rfl (lv_at hl 0 rfl) ?_
  refine va_get (D := D) (ci := 8) (v := .ref (a0 6)) (C := RX8) (T := TX8) (N := 27) hx hb hts hinX8 hown hK.1 hP 0 rfl rfl 5 (by decide) lkf22 (fun _ h9 => h9) rfl dX8_isThere_4 ?_
  refine lv_iconst (v := (0 : Int32)) hx hb dX8_isThere_7 (by decide) ?_
  refine iald (q0 := 0) (t0 := 0) (j := 0) hx hb hK hP 5 rfl rfl (vp_in_iff.mpr (by decide)) dX8_isThere_8 ?_
  refine lv_iconst (v := (1 : Int32)) hx hb dX8_isThere_9 (by decide) ?_
  refine lv_isub hx hb dX8_isThere_10 ?_
  refine lv_i2l hx hb dX8_isThere_11 rfl ?_
  obtain ⟨z1, hz1, h⟩ := bd_some h
  refine cR_S (As := [.long x1.toInt64, .long (0 : Int64), .long (((o0.2 5 0) - (1 : Int32)).toInt64)]) (rest := []) ⟨hx, hb, hml, hown, hts⟩ (c_X8_in l D cA  x1.toInt64 (0 : Int64) (((o0.2 5 0) - (1 : Int32)).toInt64) z1 hz1) (va_cwS 3 hts gX8_isThere_X8_in rfl rfl rfl hd_X8_in.2 ⟨(Nat.le_of_ble_eq_true rfl), (Nat.le_of_ble_eq_true rfl)⟩) hK hP [] rfl rfl hl.1 rfl (Nat.le_of_ble_eq_true rfl) dX8_isThere_12 ⟨(Nat.le_of_ble_eq_true rfl), (Nat.le_of_ble_eq_true rfl)⟩ ?_
  obtain ⟨hz9, h⟩ := gd_some h
  cases h
  exact hend _ _ (ckz_n hz9) dX8_isThere_15
abbrev rmX8_isPerson : Room := ({ frames := 1, cells := 0, slots := 0, locals := 25 } : Room)
set_option maxHeartbeats 4000000 in
set_option maxRecDepth 100000 in
theorem c_X8_isPerson (l : Launch) (D : va_G) (cA : ClassId) (a0 : (Nat → Nat)) (o0 : Ob) (x1 : Int32) (r : Int32) (h : f_X8_isPerson o0 x1 = some r) : ConR l yX8_isPerson wsX8_isPerson rmX8_isPerson D cA [.ref (a0 0), .int x1] (wX8 cA a0 o0) r := by
  refine ConZ.enter (cc := cX8_isPerson) (maxL := 2) (by decide) rfl (Nat.le_of_ble_eq_true rfl) ?_
  intro p e s m args below meth c Q hx hb hml hown hts hK hP  hend ls hl
  have hl : lv_has ls 2 [(0, .ref (a0 0)), (1, .int x1)] := hl
  unfold f_X8_isPerson at h
  have lkf13 := hts (.fieldLink RX8 13 "TiedToTownModel" "personMany" "[I") (List.mem_of_getElem? (i := 1) rfl)
  have hinX8 : ∀ w ∈ wsX80, w ∈ wsX8_isPerson := fun w h => List.mem_cons_of_mem _ (List.mem_append_right _ h)
  refine lv_iload_n hx hb dX8_isPerson_0 rfl (lv_at hl 1 rfl) ?_
  refine lv_i2l hx hb dX8_isPerson_1 rfl ?_
  refine lv_lconst (v := (0 : Int64)) hx hb dX8_isPerson_2 (by decide) ?_
  refine lv_aload_n hx hb dX8_isPerson_3 rfl (lv_at hl 0 rfl) ?_
  refine va_get (D := D) (ci := 8) (v := .ref (a0 3)) (C := RX8) (T := TX8) (N := 27) hx hb hts hinX8 hown hK.1 hP 0 rfl rfl 2 (by decide) lkf13 (fun _ h9 => h9) rfl dX8_isPerson_4 ?_
  refine lv_iconst (v := (0 : Int32)) hx hb dX8_isPerson_7 (by decide) ?_
  refine iald (q0 := 0) (t0 := 0) (j := 0) hx hb hK hP 2 rfl rfl (vp_in_iff.mpr (by decide)) dX8_isPerson_8 ?_
  refine lv_iconst (v := (1 : Int32)) hx hb dX8_isPerson_9 (by decide) ?_
  refine lv_isub hx hb dX8_isPerson_10 ?_
  refine lv_i2l hx hb dX8_isPerson_11 rfl ?_
  obtain ⟨z1, hz1, h⟩ := bd_some h
  refine cR_S (As := [.long x1.toInt64, .long (0 : Int64), .long (((o0.2 2 0) - (1 : Int32)).toInt64)]) (rest := []) ⟨hx, hb, hml, hown, hts⟩ (c_X8_in l D cA  x1.toInt64 (0 : Int64) (((o0.2 2 0) - (1 : Int32)).toInt64) z1 hz1) (va_cwS 3 hts gX8_isPerson_X8_in rfl rfl rfl hd_X8_in.2 ⟨(Nat.le_of_ble_eq_true rfl), (Nat.le_of_ble_eq_true rfl)⟩) hK hP [] rfl rfl hl.1 rfl (Nat.le_of_ble_eq_true rfl) dX8_isPerson_12 ⟨(Nat.le_of_ble_eq_true rfl), (Nat.le_of_ble_eq_true rfl)⟩ ?_
  obtain ⟨hz9, h⟩ := gd_some h
  cases h
  exact hend _ _ (ckz_n hz9) dX8_isPerson_15
abbrev rmX8_above : Room := ({ frames := 1, cells := 0, slots := 0, locals := 21 } : Room)
set_option maxHeartbeats 4000000 in
set_option maxRecDepth 100000 in
theorem c_X8_above (l : Launch) (D : va_G) (cA : ClassId) (a0 : (Nat → Nat)) (o0 : Ob) (x1 : Int32) (x2 : Int32) (r : Int32) (h : f_X8_above o0 x1 x2 = some r) : ConR l yX8_above wsX8_above rmX8_above D cA [.ref (a0 0), .int x1, .int x2] (wX8 cA a0 o0) r := by
  refine ConR.enter (cc := cX8_above) (maxL := 6) (by decide) rfl (Nat.le_of_ble_eq_true rfl) ?_
  intro p e s m args below meth c Q hx hb hml hown hts hK hP  hend ls hl
  have hl : lv_has ls 6 [(0, .ref (a0 0)), (1, .int x1), (2, .int x2)] := hl
  unfold f_X8_above at h
  have lkf22 := hts (.fieldLink RX8 22 "TiedToTownModel" "many" "[I") (List.mem_of_getElem? (i := 1) rfl)
  have hinX8 : ∀ w ∈ wsX80, w ∈ wsX8_above := fun w h => List.mem_cons_of_mem _ (List.mem_append_right _ h)
  have lkf31 := hts (.fieldLink RX8 31 "TiedToTownModel" "through" "[I") (List.mem_of_getElem? (i := 2) rfl)
  have LP17 : ∀ (x1 : Int32) (x2 : Int32) (x4 : Int32) (n : Nat) (x3 : Int32) (x5 : Int32) (ls : Array Slot) (_ : lv_has ls 6 [(0, .ref (a0 0)), (1, .int x1), (2, .int x2), (3, .int x3), (4, .int x4), (5, .int x5)]) (res : Int32) (_ : L_X8_above_17 x1 x2 x4 o0 n x3 x5 = some res) (_ : (∀ (ls : Array Slot), lv_has ls 6 [(0, .ref (a0 0)), (1, .int x1), (2, .int x2), (3, .int res), (4, .int x4)] → W p l e rmX8_above s m args below meth c s.heap [] 0 0 Q (F0 m 70 ls []))), W p l e rmX8_above s m args below meth c s.heap [] 0 0 Q (F0 m 17 ls []) := by
    intro x1 x2 x4 n
    induction n with
    | zero =>
      intro x3 x5 ls hl res h K0
      exact absurd h (fun q : (none : Option (Int32)) = some res => by cases q)
    | succ n ih =>
      intro x3 x5 ls hl res h K0
      have h : L_X8_above_17_step x1 x2 x4 o0 (L_X8_above_17 x1 x2 x4 o0 n) x3 x5 = some res := h
      unfold L_X8_above_17_step at h
      refine lv_iload hx hb dX8_above_17 (lv_at hl 5 rfl) ?_
      refine lv_aload_n hx hb dX8_above_19 rfl (lv_at hl 0 rfl) ?_
      refine va_get (D := D) (ci := 8) (v := .ref (a0 6)) (C := RX8) (T := TX8) (N := 27) hx hb hts hinX8 hown hK.1 hP 0 rfl rfl 5 (by decide) lkf22 (fun _ h9 => h9) rfl dX8_above_20 ?_
      refine lv_iconst (v := (0 : Int32)) hx hb dX8_above_23 (by decide) ?_
      refine iald (q0 := 0) (t0 := 0) (j := 0) hx hb hK hP 5 rfl rfl (vp_in_iff.mpr (by decide)) dX8_above_24 ?_
      refine lv_icmp_ge (tgt := 70) hx hb dX8_above_25 (by decide) (fun hc => ?_) (fun hc => ?_)
      · have h := if_t hc h
        cases h
        exact K0 _ (lv_sub hl [0, 1, 2, 3, 4] rfl)
      · have h := if_f hc h
        refine lv_iload_n hx hb dX8_above_28 rfl (lv_at hl 3 rfl) ?_
        refine lv_iload_n hx hb dX8_above_29 rfl (lv_at hl 2 rfl) ?_
        refine lv_iload hx hb dX8_above_30 (lv_at hl 5 rfl) ?_
        obtain ⟨z1, hz1, h⟩ := bd_some h
        refine cR_S (As := [.int x2, .int x5]) (rest := [.int x3]) ⟨hx, hb, hml, hown, hts⟩ (c_X8_has l D cA  x2 x5 z1 hz1) (va_cwS 2 hts gX8_above_X8_has rfl rfl rfl hd_X8_has.2 ⟨(Nat.le_of_ble_eq_true rfl), (Nat.le_of_ble_eq_true rfl)⟩) hK hP [] rfl rfl hl.1 rfl (Nat.le_of_ble_eq_true rfl) dX8_above_32 ⟨(Nat.le_of_ble_eq_true rfl), (Nat.le_of_ble_eq_true rfl)⟩ ?_
        refine lv_if_eq (tgt := 61) hx hb dX8_above_35 (by decide) (fun hc => ?_) (fun hc => ?_)
        · have h := if_t hc h
          refine lv_iconst (v := (0 : Int32)) hx hb dX8_above_61 (by decide) ?_
          refine lv_ior hx hb dX8_above_62 ?_
          refine lv_topi (fun v2 ev2 => ?_)
          have h := nm_ap ev2 h
          refine lv_istore_n (lv' := [(3, .int v2), (0, .ref (a0 0)), (1, .int x1), (2, .int x2), (4, .int x4), (5, .int x5)]) hx hb dX8_above_63 rfl hl (by decide) rfl (fun ls hl => ?_)
          obtain ⟨v3, ev3⟩ : ∃ y : Int32, y = x5 + (1 : Int32) := ⟨_, rfl⟩
          refine lv_iinc (v := v3) (lv' := [(5, .int v3), (3, .int v2), (0, .ref (a0 0)), (1, .int x1), (2, .int x2), (4, .int x4)]) hx hb dX8_above_64 hl (k := 5) rfl (by rw [ev3]; rfl) (by decide) rfl (fun ls hl => ?_)
          have h := nm_ap ev3 h
          refine lv_goto (tgt := 17) hx hb dX8_above_67 (by decide) ?_
          exact ih v2 v3 ls (lv_sub hl [2, 3, 4, 1, 5, 0] rfl) _ h K0
        · have h := if_f hc h
          refine lv_aload_n hx hb dX8_above_38 rfl (lv_at hl 0 rfl) ?_
          refine va_get (D := D) (ci := 8) (v := .ref (a0 9)) (C := RX8) (T := TX8) (N := 27) hx hb hts hinX8 hown hK.1 hP 0 rfl rfl 8 (by decide) lkf31 (fun _ h9 => h9) rfl dX8_above_39 ?_
          refine lv_iload hx hb dX8_above_42 (lv_at hl 5 rfl) ?_
          obtain ⟨hi4, h⟩ := gd_some h
          refine iald (q0 := 0) (t0 := 0) (j := x5.toNatClampNeg) hx hb hK hP 8 rfl rfl (ck_in hi4) dX8_above_44 ?_
          refine lv_iload_n hx hb dX8_above_45 rfl (lv_at hl 3 rfl) ?_
          refine lv_iconst (v := (1 : Int32)) hx hb dX8_above_46 (by decide) ?_
          refine lv_iload_n hx hb dX8_above_47 rfl (lv_at hl 1 rfl) ?_
          refine lv_ishl hx hb dX8_above_48 ?_
          refine lv_ior hx hb dX8_above_49 ?_
          refine lv_iand hx hb dX8_above_50 ?_
          refine lv_if_eq (tgt := 61) hx hb dX8_above_51 (by decide) (fun hc => ?_) (fun hc => ?_)
          · have h := if_t hc h
            refine lv_iconst (v := (0 : Int32)) hx hb dX8_above_61 (by decide) ?_
            refine lv_ior hx hb dX8_above_62 ?_
            refine lv_topi (fun v5 ev5 => ?_)
            have h := nm_ap ev5 h
            refine lv_istore_n (lv' := [(3, .int v5), (0, .ref (a0 0)), (1, .int x1), (2, .int x2), (4, .int x4), (5, .int x5)]) hx hb dX8_above_63 rfl hl (by decide) rfl (fun ls hl => ?_)
            obtain ⟨v6, ev6⟩ : ∃ y : Int32, y = x5 + (1 : Int32) := ⟨_, rfl⟩
            refine lv_iinc (v := v6) (lv' := [(5, .int v6), (3, .int v5), (0, .ref (a0 0)), (1, .int x1), (2, .int x2), (4, .int x4)]) hx hb dX8_above_64 hl (k := 5) rfl (by rw [ev6]; rfl) (by decide) rfl (fun ls hl => ?_)
            have h := nm_ap ev6 h
            refine lv_goto (tgt := 17) hx hb dX8_above_67 (by decide) ?_
            exact ih v5 v6 ls (lv_sub hl [2, 3, 4, 1, 5, 0] rfl) _ h K0
          · have h := if_f hc h
            refine lv_iconst (v := (1 : Int32)) hx hb dX8_above_54 (by decide) ?_
            refine lv_iload hx hb dX8_above_55 (lv_at hl 5 rfl) ?_
            refine lv_ishl hx hb dX8_above_57 ?_
            refine lv_goto (tgt := 62) hx hb dX8_above_58 (by decide) ?_
            refine lv_ior hx hb dX8_above_62 ?_
            refine lv_topi (fun v7 ev7 => ?_)
            have h := nm_ap ev7 h
            refine lv_istore_n (lv' := [(3, .int v7), (0, .ref (a0 0)), (1, .int x1), (2, .int x2), (4, .int x4), (5, .int x5)]) hx hb dX8_above_63 rfl hl (by decide) rfl (fun ls hl => ?_)
            obtain ⟨v8, ev8⟩ : ∃ y : Int32, y = x5 + (1 : Int32) := ⟨_, rfl⟩
            refine lv_iinc (v := v8) (lv' := [(5, .int v8), (3, .int v7), (0, .ref (a0 0)), (1, .int x1), (2, .int x2), (4, .int x4)]) hx hb dX8_above_64 hl (k := 5) rfl (by rw [ev8]; rfl) (by decide) rfl (fun ls hl => ?_)
            have h := nm_ap ev8 h
            refine lv_goto (tgt := 17) hx hb dX8_above_67 (by decide) ?_
            exact ih v7 v8 ls (lv_sub hl [2, 3, 4, 1, 5, 0] rfl) _ h K0
  have LP5 : ∀ (x1 : Int32) (x2 : Int32) (n : Nat) (x3 : Int32) (x4 : Int32) (ls : Array Slot) (_ : lv_has ls 6 [(0, .ref (a0 0)), (1, .int x1), (2, .int x2), (3, .int x3), (4, .int x4)]) (res : Int32) (_ : L_X8_above_5 x1 x2 o0 n x3 x4 = some res) (_ : (∀ (ls : Array Slot), lv_has ls 6 [(3, .int res)] → W p l e rmX8_above s m args below meth c s.heap [] 0 0 Q (F0 m 73 ls []))), W p l e rmX8_above s m args below meth c s.heap [] 0 0 Q (F0 m 5 ls []) := by
    intro x1 x2 n
    induction n with
    | zero =>
      intro x3 x4 ls hl res h K0
      exact absurd h (fun q : (none : Option (Int32)) = some res => by cases q)
    | succ n ih =>
      intro x3 x4 ls hl res h K0
      have h : L_X8_above_5_step x1 x2 o0 (L_X8_above_5 x1 x2 o0 n) x3 x4 = some res := h
      unfold L_X8_above_5_step at h
      refine lv_iload hx hb dX8_above_5 (lv_at hl 4 rfl) ?_
      refine lv_iload_n hx hb dX8_above_7 rfl (lv_at hl 3 rfl) ?_
      refine lv_icmp_eq (tgt := 73) hx hb dX8_above_8 (by decide) (fun hc => ?_) (fun hc => ?_)
      · have h := if_t hc h
        cases h
        exact K0 _ (lv_sub hl [3] rfl)
      · have h := if_f hc h
        refine lv_iload_n hx hb dX8_above_11 rfl (lv_at hl 3 rfl) ?_
        refine lv_istore (lv' := [(4, .int x3), (0, .ref (a0 0)), (1, .int x1), (2, .int x2), (3, .int x3)]) hx hb dX8_above_12 hl (by decide) rfl (fun ls hl => ?_)
        refine lv_iconst (v := (0 : Int32)) hx hb dX8_above_14 (by decide) ?_
        refine lv_istore (lv' := [(5, .int (0 : Int32)), (4, .int x3), (0, .ref (a0 0)), (1, .int x1), (2, .int x2), (3, .int x3)]) hx hb dX8_above_15 hl (by decide) rfl (fun ls hl => ?_)
        obtain ⟨z1, hz1, h⟩ := bd_some h
        refine LP17 x1 x2 x3 512 x3 (0 : Int32) ls (lv_sub hl [2, 3, 4, 5, 1, 0] rfl) _ hz1 ?_
        · intro ls hl
          refine lv_goto (tgt := 5) hx hb dX8_above_70 (by decide) ?_
          exact ih z1 x3 ls (lv_sub hl [0, 1, 2, 3, 4] rfl) _ h K0
  refine lv_iconst (v := (0 : Int32)) hx hb dX8_above_0 (by decide) ?_
  refine lv_istore_n (lv' := [(3, .int (0 : Int32)), (0, .ref (a0 0)), (1, .int x1), (2, .int x2)]) hx hb dX8_above_1 rfl hl (by decide) rfl (fun ls hl => ?_)
  refine lv_iconst (v := (-1 : Int32)) hx hb dX8_above_2 (by decide) ?_
  refine lv_istore (lv' := [(4, .int (-1 : Int32)), (3, .int (0 : Int32)), (0, .ref (a0 0)), (1, .int x1), (2, .int x2)]) hx hb dX8_above_3 hl (by decide) rfl (fun ls hl => ?_)
  obtain ⟨z1, hz1, h⟩ := bd_some h
  refine LP5 x1 x2 512 (0 : Int32) (-1 : Int32) ls (lv_sub hl [2, 3, 4, 1, 0] rfl) _ hz1 ?_
  · intro ls hl
    refine lv_iload_n hx hb dX8_above_73 rfl (lv_at hl 0 rfl) ?_
    cases h
    exact hend _ _ dX8_above_74
abbrev rmX8_knot : Room := ({ frames := 2, cells := 0, slots := 0, locals := 46 } : Room)
set_option maxHeartbeats 4000000 in
set_option maxRecDepth 100000 in
theorem c_X8_knot (l : Launch) (D : va_G) (cA : ClassId) (a0 : (Nat → Nat)) (o0 : Ob) (x1 : Int32) (x2 : Int32) (r : Int32) (h : f_X8_knot o0 x1 x2 = some r) : ConR l yX8_knot wsX8_knot rmX8_knot D cA [.ref (a0 0), .int x1, .int x2] (wX8 cA a0 o0) r := by
  refine ConR.enter (cc := cX8_knot) (maxL := 3) (by decide) rfl (Nat.le_of_ble_eq_true rfl) ?_
  intro p e s m args below meth c Q hx hb hml hown hts hK hP  hend ls hl
  have hl : lv_has ls 3 [(0, .ref (a0 0)), (1, .int x1), (2, .int x2)] := hl
  unfold f_X8_knot at h
  have lkc147 := hts (.constantLong RX8 147 (6)) (List.mem_of_getElem? (i := 1) rfl)
  have lkf25 := hts (.fieldLink RX8 25 "TiedToTownModel" "ones" "[I") (List.mem_of_getElem? (i := 2) rfl)
  have hinX8 : ∀ w ∈ wsX80, w ∈ wsX8_knot := fun w h => List.mem_cons_of_mem _ (List.mem_append_right _ h)
  have lkf28 := hts (.fieldLink RX8 28 "TiedToTownModel" "others" "[I") (List.mem_of_getElem? (i := 3) rfl)
  have lkf31 := hts (.fieldLink RX8 31 "TiedToTownModel" "through" "[I") (List.mem_of_getElem? (i := 4) rfl)
  have lkf34 := hts (.fieldLink RX8 34 "TiedToTownModel" "due" "[I") (List.mem_of_getElem? (i := 5) rfl)
  have lkf37 := hts (.fieldLink RX8 37 "TiedToTownModel" "kinds" "[I") (List.mem_of_getElem? (i := 6) rfl)
  have lkf40 := hts (.fieldLink RX8 40 "TiedToTownModel" "tied" "[I") (List.mem_of_getElem? (i := 7) rfl)
  refine lv_aload_n hx hb dX8_knot_0 rfl (lv_at hl 0 rfl) ?_
  refine lv_iload_n hx hb dX8_knot_1 rfl (lv_at hl 1 rfl) ?_
  obtain ⟨z1, hz1, h⟩ := bd_some h
  refine cR_V (As := [.int x1]) (rest := []) ⟨hx, hb, hml, hown, hts⟩ (c_X8_isThere l D cA a0 o0 x1 z1 hz1) (cwV 1 hts gX8_knot_X8_isThere rfl rfl rfl hd_X8_isThere ⟨(Nat.le_of_ble_eq_true rfl), (Nat.le_of_ble_eq_true rfl)⟩) (recvK hK hP 0 8 rfl rfl) hK hP [0, 1, 2, 3, 4, 5, 6, 7, 8, 9, 10, 11, 12, 13, 14, 15, 16, 17, 18, 19, 20, 21, 22] rfl rfl hl.1 rfl (Nat.le_of_ble_eq_true rfl) dX8_knot_2 ⟨(Nat.le_of_ble_eq_true rfl), (Nat.le_of_ble_eq_true rfl)⟩ ?_
  refine lv_if_eq (tgt := 20) hx hb dX8_knot_5 (by decide) (fun hc => ?_) (fun hc => ?_)
  · have h := if_t hc h
    refine lv_iconst (v := (-1 : Int32)) hx hb dX8_knot_20 (by decide) ?_
    cases h
    exact hend _ _ dX8_knot_21
  · have h := if_f hc h
    refine lv_iload_n hx hb dX8_knot_8 rfl (lv_at hl 2 rfl) ?_
    refine lv_i2l hx hb dX8_knot_9 rfl ?_
    refine lv_lconst (v := (0 : Int64)) hx hb dX8_knot_10 (by decide) ?_
    refine lv_ldc2 hx hb hown lkc147 dX8_knot_11 ?_
    obtain ⟨z2, hz2, h⟩ := bd_some h
    refine cR_S (As := [.long x2.toInt64, .long (0 : Int64), .long (6 : Int64)]) (rest := []) ⟨hx, hb, hml, hown, hts⟩ (c_X8_in l D cA  x2.toInt64 (0 : Int64) (6 : Int64) z2 hz2) (va_cwS 3 hts gX8_knot_X8_in rfl rfl rfl hd_X8_in.2 ⟨(Nat.le_of_ble_eq_true rfl), (Nat.le_of_ble_eq_true rfl)⟩) hK hP [] rfl rfl hl.1 rfl (Nat.le_of_ble_eq_true rfl) dX8_knot_14 ⟨(Nat.le_of_ble_eq_true rfl), (Nat.le_of_ble_eq_true rfl)⟩ ?_
    refine lv_if_ne (tgt := 22) hx hb dX8_knot_17 (by decide) (fun hc => ?_) (fun hc => ?_)
    · have h := if_f hc h
      refine lv_iload_n hx hb dX8_knot_22 rfl (lv_at hl 2 rfl) ?_
      by_cases hc3 : x2 = (0 : Int32)
      · have h := if_t hc3 h
        refine lv_tableIn (off := 37) (tgt := 60) hx hb dX8_knot_23 (by rw [hc3]; decide) (by rw [hc3]; decide) (by rw [hc3]; decide) (by decide) ?_
        refine lv_aload_n hx hb dX8_knot_60 rfl (lv_at hl 0 rfl) ?_
        refine va_get (D := D) (ci := 8) (v := .ref (a0 7)) (C := RX8) (T := TX8) (N := 27) hx hb hts hinX8 hown hK.1 hP 0 rfl rfl 6 (by decide) lkf25 (fun _ h9 => h9) rfl dX8_knot_61 ?_
        refine lv_iload_n hx hb dX8_knot_64 rfl (lv_at hl 1 rfl) ?_
        obtain ⟨hi4, h⟩ := gd_some h
        refine iald (q0 := 0) (t0 := 0) (j := x1.toNatClampNeg) hx hb hK hP 6 rfl rfl (ck_in hi4) dX8_knot_65 ?_
        cases h
        exact hend _ _ dX8_knot_66
      have h := if_f hc3 h
      by_cases hc5 : x2 = (1 : Int32)
      · have h := if_t hc5 h
        refine lv_tableIn (off := 44) (tgt := 67) hx hb dX8_knot_23 (by rw [hc5]; decide) (by rw [hc5]; decide) (by rw [hc5]; decide) (by decide) ?_
        refine lv_aload_n hx hb dX8_knot_67 rfl (lv_at hl 0 rfl) ?_
        refine va_get (D := D) (ci := 8) (v := .ref (a0 8)) (C := RX8) (T := TX8) (N := 27) hx hb hts hinX8 hown hK.1 hP 0 rfl rfl 7 (by decide) lkf28 (fun _ h9 => h9) rfl dX8_knot_68 ?_
        refine lv_iload_n hx hb dX8_knot_71 rfl (lv_at hl 1 rfl) ?_
        obtain ⟨hi6, h⟩ := gd_some h
        refine iald (q0 := 0) (t0 := 0) (j := x1.toNatClampNeg) hx hb hK hP 7 rfl rfl (ck_in hi6) dX8_knot_72 ?_
        cases h
        exact hend _ _ dX8_knot_73
      have h := if_f hc5 h
      by_cases hc7 : x2 = (2 : Int32)
      · have h := if_t hc7 h
        refine lv_tableIn (off := 51) (tgt := 74) hx hb dX8_knot_23 (by rw [hc7]; decide) (by rw [hc7]; decide) (by rw [hc7]; decide) (by decide) ?_
        refine lv_aload_n hx hb dX8_knot_74 rfl (lv_at hl 0 rfl) ?_
        refine va_get (D := D) (ci := 8) (v := .ref (a0 9)) (C := RX8) (T := TX8) (N := 27) hx hb hts hinX8 hown hK.1 hP 0 rfl rfl 8 (by decide) lkf31 (fun _ h9 => h9) rfl dX8_knot_75 ?_
        refine lv_iload_n hx hb dX8_knot_78 rfl (lv_at hl 1 rfl) ?_
        obtain ⟨hi8, h⟩ := gd_some h
        refine iald (q0 := 0) (t0 := 0) (j := x1.toNatClampNeg) hx hb hK hP 8 rfl rfl (ck_in hi8) dX8_knot_79 ?_
        cases h
        exact hend _ _ dX8_knot_80
      have h := if_f hc7 h
      by_cases hc9 : x2 = (3 : Int32)
      · have h := if_t hc9 h
        refine lv_tableIn (off := 58) (tgt := 81) hx hb dX8_knot_23 (by rw [hc9]; decide) (by rw [hc9]; decide) (by rw [hc9]; decide) (by decide) ?_
        refine lv_aload_n hx hb dX8_knot_81 rfl (lv_at hl 0 rfl) ?_
        refine va_get (D := D) (ci := 8) (v := .ref (a0 10)) (C := RX8) (T := TX8) (N := 27) hx hb hts hinX8 hown hK.1 hP 0 rfl rfl 9 (by decide) lkf34 (fun _ h9 => h9) rfl dX8_knot_82 ?_
        refine lv_iload_n hx hb dX8_knot_85 rfl (lv_at hl 1 rfl) ?_
        obtain ⟨hi10, h⟩ := gd_some h
        refine iald (q0 := 0) (t0 := 0) (j := x1.toNatClampNeg) hx hb hK hP 9 rfl rfl (ck_in hi10) dX8_knot_86 ?_
        cases h
        exact hend _ _ dX8_knot_87
      have h := if_f hc9 h
      by_cases hc11 : x2 = (4 : Int32)
      · have h := if_t hc11 h
        refine lv_tableIn (off := 65) (tgt := 88) hx hb dX8_knot_23 (by rw [hc11]; decide) (by rw [hc11]; decide) (by rw [hc11]; decide) (by decide) ?_
        refine lv_aload_n hx hb dX8_knot_88 rfl (lv_at hl 0 rfl) ?_
        refine va_get (D := D) (ci := 8) (v := .ref (a0 11)) (C := RX8) (T := TX8) (N := 27) hx hb hts hinX8 hown hK.1 hP 0 rfl rfl 10 (by decide) lkf37 (fun _ h9 => h9) rfl dX8_knot_89 ?_
        refine lv_iload_n hx hb dX8_knot_92 rfl (lv_at hl 1 rfl) ?_
        obtain ⟨hi12, h⟩ := gd_some h
        refine iald (q0 := 0) (t0 := 0) (j := x1.toNatClampNeg) hx hb hK hP 10 rfl rfl (ck_in hi12) dX8_knot_93 ?_
        cases h
        exact hend _ _ dX8_knot_94
      have h := if_f hc11 h
      by_cases hc13 : x2 = (5 : Int32)
      · have h := if_t hc13 h
        refine lv_tableIn (off := 72) (tgt := 95) hx hb dX8_knot_23 (by rw [hc13]; decide) (by rw [hc13]; decide) (by rw [hc13]; decide) (by decide) ?_
        refine lv_aload_n hx hb dX8_knot_95 rfl (lv_at hl 0 rfl) ?_
        refine va_get (D := D) (ci := 8) (v := .ref (a0 12)) (C := RX8) (T := TX8) (N := 27) hx hb hts hinX8 hown hK.1 hP 0 rfl rfl 11 (by decide) lkf40 (fun _ h9 => h9) rfl dX8_knot_96 ?_
        refine lv_iconst (v := (0 : Int32)) hx hb dX8_knot_99 (by decide) ?_
        refine iald (q0 := 0) (t0 := 0) (j := 0) hx hb hK hP 11 rfl rfl (vp_in_iff.mpr (by decide)) dX8_knot_100 ?_
        refine lv_iload_n hx hb dX8_knot_101 rfl (lv_at hl 1 rfl) ?_
        refine lv_ishr hx hb dX8_knot_102 ?_
        refine lv_iconst (v := (1 : Int32)) hx hb dX8_knot_103 (by decide) ?_
        refine lv_iand hx hb dX8_knot_104 ?_
        cases h
        exact hend _ _ dX8_knot_105
      have h := if_f hc13 h
      refine lv_tableOut (tgt := 106) hx hb dX8_knot_23 (sw_out5 hc3 hc5 hc7 hc9 hc11 hc13) (by decide) ?_
      refine lv_aload_n hx hb dX8_knot_106 rfl (lv_at hl 0 rfl) ?_
      refine lv_iload_n hx hb dX8_knot_107 rfl (lv_at hl 1 rfl) ?_
      refine lv_aload_n hx hb dX8_knot_108 rfl (lv_at hl 0 rfl) ?_
      refine va_get (D := D) (ci := 8) (v := .ref (a0 12)) (C := RX8) (T := TX8) (N := 27) hx hb hts hinX8 hown hK.1 hP 0 rfl rfl 11 (by decide) lkf40 (fun _ h9 => h9) rfl dX8_knot_109 ?_
      refine lv_iconst (v := (0 : Int32)) hx hb dX8_knot_112 (by decide) ?_
      refine iald (q0 := 0) (t0 := 0) (j := 0) hx hb hK hP 11 rfl rfl (vp_in_iff.mpr (by decide)) dX8_knot_113 ?_
      obtain ⟨z14, hz14, h⟩ := bd_some h
      refine cR_V (As := [.int x1, .int (o0.2 11 0)]) (rest := []) ⟨hx, hb, hml, hown, hts⟩ (c_X8_above l D cA a0 o0 x1 (o0.2 11 0) z14 hz14) (cwV 2 hts gX8_knot_X8_above rfl rfl rfl hd_X8_above ⟨(Nat.le_of_ble_eq_true rfl), (Nat.le_of_ble_eq_true rfl)⟩) (recvK hK hP 0 8 rfl rfl) hK hP [0, 1, 2, 3, 4, 5, 6, 7, 8, 9, 10, 11, 12, 13, 14, 15, 16, 17, 18, 19, 20, 21, 22] rfl rfl hl.1 rfl (Nat.le_of_ble_eq_true rfl) dX8_knot_114 ⟨(Nat.le_of_ble_eq_true rfl), (Nat.le_of_ble_eq_true rfl)⟩ ?_
      cases h
      exact hend _ _ dX8_knot_117
    · have h := if_t hc h
      refine lv_iconst (v := (-1 : Int32)) hx hb dX8_knot_20 (by decide) ?_
      cases h
      exact hend _ _ dX8_knot_21
abbrev rmX8_knotsOf : Room := ({ frames := 1, cells := 0, slots := 0, locals := 21 } : Room)
set_option maxHeartbeats 4000000 in
set_option maxRecDepth 100000 in
theorem c_X8_knotsOf (l : Launch) (D : va_G) (cA : ClassId) (a0 : (Nat → Nat)) (o0 : Ob) (x1 : Int32) (x2 : Int32) (r : Int32) (h : f_X8_knotsOf o0 x1 x2 = some r) : ConR l yX8_knotsOf wsX8_knotsOf rmX8_knotsOf D cA [.ref (a0 0), .int x1, .int x2] (wX8 cA a0 o0) r := by
  refine ConR.enter (cc := cX8_knotsOf) (maxL := 5) (by decide) rfl (Nat.le_of_ble_eq_true rfl) ?_
  intro p e s m args below meth c Q hx hb hml hown hts hK hP  hend ls hl
  have hl : lv_has ls 5 [(0, .ref (a0 0)), (1, .int x1), (2, .int x2)] := hl
  unfold f_X8_knotsOf at h
  have lkf22 := hts (.fieldLink RX8 22 "TiedToTownModel" "many" "[I") (List.mem_of_getElem? (i := 1) rfl)
  have hinX8 : ∀ w ∈ wsX80, w ∈ wsX8_knotsOf := fun w h => List.mem_cons_of_mem _ (List.mem_append_right _ h)
  have lkf25 := hts (.fieldLink RX8 25 "TiedToTownModel" "ones" "[I") (List.mem_of_getElem? (i := 2) rfl)
  have lkf28 := hts (.fieldLink RX8 28 "TiedToTownModel" "others" "[I") (List.mem_of_getElem? (i := 3) rfl)
  have LP5 : ∀ (x1 : Int32) (x2 : Int32) (n : Nat) (x3 : Int32) (x4 : Int32) (ls : Array Slot) (_ : lv_has ls 5 [(0, .ref (a0 0)), (1, .int x1), (2, .int x2), (3, .int x3), (4, .int x4)]) (res : Int32) (_ : L_X8_knotsOf_5 x1 x2 o0 n x3 x4 = some res) (_ : (∀ (ls : Array Slot), lv_has ls 5 [(3, .int res)] → W p l e rmX8_knotsOf s m args below meth c s.heap [] 0 0 Q (F0 m 64 ls []))), W p l e rmX8_knotsOf s m args below meth c s.heap [] 0 0 Q (F0 m 5 ls []) := by
    intro x1 x2 n
    induction n with
    | zero =>
      intro x3 x4 ls hl res h K0
      exact absurd h (fun q : (none : Option (Int32)) = some res => by cases q)
    | succ n ih =>
      intro x3 x4 ls hl res h K0
      have h : L_X8_knotsOf_5_step x1 x2 o0 (L_X8_knotsOf_5 x1 x2 o0 n) x3 x4 = some res := h
      unfold L_X8_knotsOf_5_step at h
      refine lv_iload hx hb dX8_knotsOf_5 (lv_at hl 4 rfl) ?_
      refine lv_aload_n hx hb dX8_knotsOf_7 rfl (lv_at hl 0 rfl) ?_
      refine va_get (D := D) (ci := 8) (v := .ref (a0 6)) (C := RX8) (T := TX8) (N := 27) hx hb hts hinX8 hown hK.1 hP 0 rfl rfl 5 (by decide) lkf22 (fun _ h9 => h9) rfl dX8_knotsOf_8 ?_
      refine lv_iconst (v := (0 : Int32)) hx hb dX8_knotsOf_11 (by decide) ?_
      refine iald (q0 := 0) (t0 := 0) (j := 0) hx hb hK hP 5 rfl rfl (vp_in_iff.mpr (by decide)) dX8_knotsOf_12 ?_
      refine lv_icmp_ge (tgt := 64) hx hb dX8_knotsOf_13 (by decide) (fun hc => ?_) (fun hc => ?_)
      · have h := if_t hc h
        cases h
        exact K0 _ (lv_sub hl [3] rfl)
      · have h := if_f hc h
        refine lv_iload_n hx hb dX8_knotsOf_16 rfl (lv_at hl 3 rfl) ?_
        refine lv_iload_n hx hb dX8_knotsOf_17 rfl (lv_at hl 2 rfl) ?_
        refine lv_iload hx hb dX8_knotsOf_18 (lv_at hl 4 rfl) ?_
        obtain ⟨z1, hz1, h⟩ := bd_some h
        refine cR_S (As := [.int x2, .int x4]) (rest := [.int x3]) ⟨hx, hb, hml, hown, hts⟩ (c_X8_has l D cA  x2 x4 z1 hz1) (va_cwS 2 hts gX8_knotsOf_X8_has rfl rfl rfl hd_X8_has.2 ⟨(Nat.le_of_ble_eq_true rfl), (Nat.le_of_ble_eq_true rfl)⟩) hK hP [] rfl rfl hl.1 rfl (Nat.le_of_ble_eq_true rfl) dX8_knotsOf_20 ⟨(Nat.le_of_ble_eq_true rfl), (Nat.le_of_ble_eq_true rfl)⟩ ?_
        refine lv_if_eq (tgt := 55) hx hb dX8_knotsOf_23 (by decide) (fun hc => ?_) (fun hc => ?_)
        · have h := if_t hc h
          refine lv_iconst (v := (0 : Int32)) hx hb dX8_knotsOf_55 (by decide) ?_
          refine lv_ior hx hb dX8_knotsOf_56 ?_
          refine lv_topi (fun v2 ev2 => ?_)
          have h := nm_ap ev2 h
          refine lv_istore_n (lv' := [(3, .int v2), (0, .ref (a0 0)), (1, .int x1), (2, .int x2), (4, .int x4)]) hx hb dX8_knotsOf_57 rfl hl (by decide) rfl (fun ls hl => ?_)
          obtain ⟨v3, ev3⟩ : ∃ y : Int32, y = x4 + (1 : Int32) := ⟨_, rfl⟩
          refine lv_iinc (v := v3) (lv' := [(4, .int v3), (3, .int v2), (0, .ref (a0 0)), (1, .int x1), (2, .int x2)]) hx hb dX8_knotsOf_58 hl (k := 4) rfl (by rw [ev3]; rfl) (by decide) rfl (fun ls hl => ?_)
          have h := nm_ap ev3 h
          refine lv_goto (tgt := 5) hx hb dX8_knotsOf_61 (by decide) ?_
          exact ih v2 v3 ls (lv_sub hl [2, 3, 4, 1, 0] rfl) _ h K0
        · have h := if_f hc h
          refine lv_aload_n hx hb dX8_knotsOf_26 rfl (lv_at hl 0 rfl) ?_
          refine va_get (D := D) (ci := 8) (v := .ref (a0 7)) (C := RX8) (T := TX8) (N := 27) hx hb hts hinX8 hown hK.1 hP 0 rfl rfl 6 (by decide) lkf25 (fun _ h9 => h9) rfl dX8_knotsOf_27 ?_
          refine lv_iload hx hb dX8_knotsOf_30 (lv_at hl 4 rfl) ?_
          obtain ⟨hi4, h⟩ := gd_some h
          refine iald (q0 := 0) (t0 := 0) (j := x4.toNatClampNeg) hx hb hK hP 6 rfl rfl (ck_in hi4) dX8_knotsOf_32 ?_
          refine lv_iload_n hx hb dX8_knotsOf_33 rfl (lv_at hl 1 rfl) ?_
          refine lv_icmp_eq (tgt := 48) hx hb dX8_knotsOf_34 (by decide) (fun hc => ?_) (fun hc => ?_)
          · have h := if_t hc h
            refine lv_iconst (v := (1 : Int32)) hx hb dX8_knotsOf_48 (by decide) ?_
            refine lv_iload hx hb dX8_knotsOf_49 (lv_at hl 4 rfl) ?_
            refine lv_ishl hx hb dX8_knotsOf_51 ?_
            refine lv_goto (tgt := 56) hx hb dX8_knotsOf_52 (by decide) ?_
            refine lv_ior hx hb dX8_knotsOf_56 ?_
            refine lv_topi (fun v5 ev5 => ?_)
            have h := nm_ap ev5 h
            refine lv_istore_n (lv' := [(3, .int v5), (0, .ref (a0 0)), (1, .int x1), (2, .int x2), (4, .int x4)]) hx hb dX8_knotsOf_57 rfl hl (by decide) rfl (fun ls hl => ?_)
            obtain ⟨v6, ev6⟩ : ∃ y : Int32, y = x4 + (1 : Int32) := ⟨_, rfl⟩
            refine lv_iinc (v := v6) (lv' := [(4, .int v6), (3, .int v5), (0, .ref (a0 0)), (1, .int x1), (2, .int x2)]) hx hb dX8_knotsOf_58 hl (k := 4) rfl (by rw [ev6]; rfl) (by decide) rfl (fun ls hl => ?_)
            have h := nm_ap ev6 h
            refine lv_goto (tgt := 5) hx hb dX8_knotsOf_61 (by decide) ?_
            exact ih v5 v6 ls (lv_sub hl [2, 3, 4, 1, 0] rfl) _ h K0
          · have h := if_f hc h
            refine lv_aload_n hx hb dX8_knotsOf_37 rfl (lv_at hl 0 rfl) ?_
            refine va_get (D := D) (ci := 8) (v := .ref (a0 8)) (C := RX8) (T := TX8) (N := 27) hx hb hts hinX8 hown hK.1 hP 0 rfl rfl 7 (by decide) lkf28 (fun _ h9 => h9) rfl dX8_knotsOf_38 ?_
            refine lv_iload hx hb dX8_knotsOf_41 (lv_at hl 4 rfl) ?_
            refine iald (q0 := 0) (t0 := 0) (j := x4.toNatClampNeg) hx hb hK hP 7 rfl rfl (ck_in hi4) dX8_knotsOf_43 ?_
            refine lv_iload_n hx hb dX8_knotsOf_44 rfl (lv_at hl 1 rfl) ?_
            refine lv_icmp_ne (tgt := 55) hx hb dX8_knotsOf_45 (by decide) (fun hc => ?_) (fun hc => ?_)
            · have h := if_f hc h
              refine lv_iconst (v := (0 : Int32)) hx hb dX8_knotsOf_55 (by decide) ?_
              refine lv_ior hx hb dX8_knotsOf_56 ?_
              refine lv_topi (fun v7 ev7 => ?_)
              have h := nm_ap ev7 h
              refine lv_istore_n (lv' := [(3, .int v7), (0, .ref (a0 0)), (1, .int x1), (2, .int x2), (4, .int x4)]) hx hb dX8_knotsOf_57 rfl hl (by decide) rfl (fun ls hl => ?_)
              obtain ⟨v8, ev8⟩ : ∃ y : Int32, y = x4 + (1 : Int32) := ⟨_, rfl⟩
              refine lv_iinc (v := v8) (lv' := [(4, .int v8), (3, .int v7), (0, .ref (a0 0)), (1, .int x1), (2, .int x2)]) hx hb dX8_knotsOf_58 hl (k := 4) rfl (by rw [ev8]; rfl) (by decide) rfl (fun ls hl => ?_)
              have h := nm_ap ev8 h
              refine lv_goto (tgt := 5) hx hb dX8_knotsOf_61 (by decide) ?_
              exact ih v7 v8 ls (lv_sub hl [2, 3, 4, 1, 0] rfl) _ h K0
            · have h := if_t hc h
              refine lv_iconst (v := (1 : Int32)) hx hb dX8_knotsOf_48 (by decide) ?_
              refine lv_iload hx hb dX8_knotsOf_49 (lv_at hl 4 rfl) ?_
              refine lv_ishl hx hb dX8_knotsOf_51 ?_
              refine lv_goto (tgt := 56) hx hb dX8_knotsOf_52 (by decide) ?_
              refine lv_ior hx hb dX8_knotsOf_56 ?_
              refine lv_topi (fun v9 ev9 => ?_)
              have h := nm_ap ev9 h
              refine lv_istore_n (lv' := [(3, .int v9), (0, .ref (a0 0)), (1, .int x1), (2, .int x2), (4, .int x4)]) hx hb dX8_knotsOf_57 rfl hl (by decide) rfl (fun ls hl => ?_)
              obtain ⟨v10, ev10⟩ : ∃ y : Int32, y = x4 + (1 : Int32) := ⟨_, rfl⟩
              refine lv_iinc (v := v10) (lv' := [(4, .int v10), (3, .int v9), (0, .ref (a0 0)), (1, .int x1), (2, .int x2)]) hx hb dX8_knotsOf_58 hl (k := 4) rfl (by rw [ev10]; rfl) (by decide) rfl (fun ls hl => ?_)
              have h := nm_ap ev10 h
              refine lv_goto (tgt := 5) hx hb dX8_knotsOf_61 (by decide) ?_
              exact ih v9 v10 ls (lv_sub hl [2, 3, 4, 1, 0] rfl) _ h K0
  refine lv_iconst (v := (0 : Int32)) hx hb dX8_knotsOf_0 (by decide) ?_
  refine lv_istore_n (lv' := [(3, .int (0 : Int32)), (0, .ref (a0 0)), (1, .int x1), (2, .int x2)]) hx hb dX8_knotsOf_1 rfl hl (by decide) rfl (fun ls hl => ?_)
  refine lv_iconst (v := (0 : Int32)) hx hb dX8_knotsOf_2 (by decide) ?_
  refine lv_istore (lv' := [(4, .int (0 : Int32)), (3, .int (0 : Int32)), (0, .ref (a0 0)), (1, .int x1), (2, .int x2)]) hx hb dX8_knotsOf_3 hl (by decide) rfl (fun ls hl => ?_)
  obtain ⟨z1, hz1, h⟩ := bd_some h
  refine LP5 x1 x2 512 (0 : Int32) (0 : Int32) ls (lv_sub hl [2, 3, 4, 1, 0] rfl) _ hz1 ?_
  · intro ls hl
    refine lv_iload_n hx hb dX8_knotsOf_64 rfl (lv_at hl 0 rfl) ?_
    cases h
    exact hend _ _ dX8_knotsOf_65
abbrev rmX8_person : Room := ({ frames := 2, cells := 0, slots := 0, locals := 46 } : Room)
set_option maxHeartbeats 4000000 in
set_option maxRecDepth 100000 in
theorem c_X8_person (l : Launch) (D : va_G) (cA : ClassId) (a0 : (Nat → Nat)) (o0 : Ob) (x1 : Int32) (x2 : Int32) (r : Int32) (h : f_X8_person o0 x1 x2 = some r) : ConR l yX8_person wsX8_person rmX8_person D cA [.ref (a0 0), .int x1, .int x2] (wX8 cA a0 o0) r := by
  refine ConR.enter (cc := cX8_person) (maxL := 3) (by decide) rfl (Nat.le_of_ble_eq_true rfl) ?_
  intro p e s m args below meth c Q hx hb hml hown hts hK hP  hend ls hl
  have hl : lv_has ls 3 [(0, .ref (a0 0)), (1, .int x1), (2, .int x2)] := hl
  unfold f_X8_person at h
  have lkf40 := hts (.fieldLink RX8 40 "TiedToTownModel" "tied" "[I") (List.mem_of_getElem? (i := 2) rfl)
  have hinX8 : ∀ w ∈ wsX80, w ∈ wsX8_person := fun w h => List.mem_cons_of_mem _ (List.mem_append_right _ h)
  have lkf16 := hts (.fieldLink RX8 16 "TiedToTownModel" "alive" "[I") (List.mem_of_getElem? (i := 1) rfl)
  refine lv_aload_n hx hb dX8_person_0 rfl (lv_at hl 0 rfl) ?_
  refine lv_iload_n hx hb dX8_person_1 rfl (lv_at hl 1 rfl) ?_
  obtain ⟨z1, hz1, h⟩ := bd_some h
  refine cR_V (As := [.int x1]) (rest := []) ⟨hx, hb, hml, hown, hts⟩ (c_X8_isPerson l D cA a0 o0 x1 z1 hz1) (cwV 1 hts gX8_person_X8_isPerson rfl rfl rfl hd_X8_isPerson ⟨(Nat.le_of_ble_eq_true rfl), (Nat.le_of_ble_eq_true rfl)⟩) (recvK hK hP 0 8 rfl rfl) hK hP [0, 1, 2, 3, 4, 5, 6, 7, 8, 9, 10, 11, 12, 13, 14, 15, 16, 17, 18, 19, 20, 21, 22] rfl rfl hl.1 rfl (Nat.le_of_ble_eq_true rfl) dX8_person_2 ⟨(Nat.le_of_ble_eq_true rfl), (Nat.le_of_ble_eq_true rfl)⟩ ?_
  refine lv_if_eq (tgt := 18) hx hb dX8_person_5 (by decide) (fun hc => ?_) (fun hc => ?_)
  · have h := if_t hc h
    refine lv_iconst (v := (-1 : Int32)) hx hb dX8_person_18 (by decide) ?_
    cases h
    exact hend _ _ dX8_person_19
  · have h := if_f hc h
    refine lv_iload_n hx hb dX8_person_8 rfl (lv_at hl 2 rfl) ?_
    refine lv_i2l hx hb dX8_person_9 rfl ?_
    refine lv_lconst (v := (0 : Int64)) hx hb dX8_person_10 (by decide) ?_
    refine lv_lconst (v := (1 : Int64)) hx hb dX8_person_11 (by decide) ?_
    obtain ⟨z2, hz2, h⟩ := bd_some h
    refine cR_S (As := [.long x2.toInt64, .long (0 : Int64), .long (1 : Int64)]) (rest := []) ⟨hx, hb, hml, hown, hts⟩ (c_X8_in l D cA  x2.toInt64 (0 : Int64) (1 : Int64) z2 hz2) (va_cwS 3 hts gX8_person_X8_in rfl rfl rfl hd_X8_in.2 ⟨(Nat.le_of_ble_eq_true rfl), (Nat.le_of_ble_eq_true rfl)⟩) hK hP [] rfl rfl hl.1 rfl (Nat.le_of_ble_eq_true rfl) dX8_person_12 ⟨(Nat.le_of_ble_eq_true rfl), (Nat.le_of_ble_eq_true rfl)⟩ ?_
    refine lv_if_ne (tgt := 20) hx hb dX8_person_15 (by decide) (fun hc => ?_) (fun hc => ?_)
    · have h := if_f hc h
      refine lv_iload_n hx hb dX8_person_20 rfl (lv_at hl 2 rfl) ?_
      refine lv_if_ne (tgt := 37) hx hb dX8_person_21 (by decide) (fun hc => ?_) (fun hc => ?_)
      · have h := if_f hc h
        refine lv_aload_n hx hb dX8_person_37 rfl (lv_at hl 0 rfl) ?_
        refine lv_iload_n hx hb dX8_person_38 rfl (lv_at hl 1 rfl) ?_
        refine lv_aload_n hx hb dX8_person_39 rfl (lv_at hl 0 rfl) ?_
        refine va_get (D := D) (ci := 8) (v := .ref (a0 12)) (C := RX8) (T := TX8) (N := 27) hx hb hts hinX8 hown hK.1 hP 0 rfl rfl 11 (by decide) lkf40 (fun _ h9 => h9) rfl dX8_person_40 ?_
        refine lv_iconst (v := (0 : Int32)) hx hb dX8_person_43 (by decide) ?_
        refine iald (q0 := 0) (t0 := 0) (j := 0) hx hb hK hP 11 rfl rfl (vp_in_iff.mpr (by decide)) dX8_person_44 ?_
        obtain ⟨z3, hz3, h⟩ := bd_some h
        refine cR_V (As := [.int x1, .int (o0.2 11 0)]) (rest := []) ⟨hx, hb, hml, hown, hts⟩ (c_X8_knotsOf l D cA a0 o0 x1 (o0.2 11 0) z3 hz3) (cwV 2 hts gX8_person_X8_knotsOf rfl rfl rfl hd_X8_knotsOf ⟨(Nat.le_of_ble_eq_true rfl), (Nat.le_of_ble_eq_true rfl)⟩) (recvK hK hP 0 8 rfl rfl) hK hP [0, 1, 2, 3, 4, 5, 6, 7, 8, 9, 10, 11, 12, 13, 14, 15, 16, 17, 18, 19, 20, 21, 22] rfl rfl hl.1 rfl (Nat.le_of_ble_eq_true rfl) dX8_person_45 ⟨(Nat.le_of_ble_eq_true rfl), (Nat.le_of_ble_eq_true rfl)⟩ ?_
        cases h
        exact hend _ _ dX8_person_48
      · have h := if_t hc h
        refine lv_aload_n hx hb dX8_person_24 rfl (lv_at hl 0 rfl) ?_
        refine va_get (D := D) (ci := 8) (v := .ref (a0 4)) (C := RX8) (T := TX8) (N := 27) hx hb hts hinX8 hown hK.1 hP 0 rfl rfl 3 (by decide) lkf16 (fun _ h9 => h9) rfl dX8_person_25 ?_
        refine lv_iconst (v := (0 : Int32)) hx hb dX8_person_28 (by decide) ?_
        refine iald (q0 := 0) (t0 := 0) (j := 0) hx hb hK hP 3 rfl rfl (vp_in_iff.mpr (by decide)) dX8_person_29 ?_
        refine lv_iload_n hx hb dX8_person_30 rfl (lv_at hl 1 rfl) ?_
        refine lv_ishr hx hb dX8_person_31 ?_
        refine lv_iconst (v := (1 : Int32)) hx hb dX8_person_32 (by decide) ?_
        refine lv_iand hx hb dX8_person_33 ?_
        refine lv_goto (tgt := 48) hx hb dX8_person_34 (by decide) ?_
        cases h
        exact hend _ _ dX8_person_48
    · have h := if_t hc h
      refine lv_iconst (v := (-1 : Int32)) hx hb dX8_person_18 (by decide) ?_
      cases h
      exact hend _ _ dX8_person_19
abbrev rmX8_mayBe : Room := ({ frames := 2, cells := 0, slots := 0, locals := 45 } : Room)
set_option maxHeartbeats 4000000 in
set_option maxRecDepth 100000 in
theorem c_X8_mayBe (l : Launch) (D : va_G) (cA : ClassId) (a0 : (Nat → Nat)) (o0 : Ob) (x1 : Int32) (x2 : Int32) (x3 : Int32) (x4 : Int32) (r : Int32) (h : f_X8_mayBe o0 x1 x2 x3 x4 = some r) : ConR l yX8_mayBe wsX8_mayBe rmX8_mayBe D cA [.ref (a0 0), .int x1, .int x2, .int x3, .int x4] (wX8 cA a0 o0) r := by
  refine ConZ.enter (cc := cX8_mayBe) (maxL := 8) (by decide) rfl (Nat.le_of_ble_eq_true rfl) ?_
  intro p e s m args below meth c Q hx hb hml hown hts hK hP  hend ls hl
  have hl : lv_has ls 8 [(0, .ref (a0 0)), (1, .int x1), (2, .int x2), (3, .int x3), (4, .int x4)] := hl
  unfold f_X8_mayBe at h
  have lkf22 := hts (.fieldLink RX8 22 "TiedToTownModel" "many" "[I") (List.mem_of_getElem? (i := 1) rfl)
  have hinX8 : ∀ w ∈ wsX80, w ∈ wsX8_mayBe := fun w h => List.mem_cons_of_mem _ (List.mem_append_right _ h)
  have lkf31 := hts (.fieldLink RX8 31 "TiedToTownModel" "through" "[I") (List.mem_of_getElem? (i := 2) rfl)
  have lkf25 := hts (.fieldLink RX8 25 "TiedToTownModel" "ones" "[I") (List.mem_of_getElem? (i := 3) rfl)
  have lkf28 := hts (.fieldLink RX8 28 "TiedToTownModel" "others" "[I") (List.mem_of_getElem? (i := 4) rfl)
  have lkf37 := hts (.fieldLink RX8 37 "TiedToTownModel" "kinds" "[I") (List.mem_of_getElem? (i := 6) rfl)
  have lkf34 := hts (.fieldLink RX8 34 "TiedToTownModel" "due" "[I") (List.mem_of_getElem? (i := 7) rfl)
  have lkf19 := hts (.fieldLink RX8 19 "TiedToTownModel" "law" "[I") (List.mem_of_getElem? (i := 5) rfl)
  have LP10 : ∀ (x1 : Int32) (x2 : Int32) (x3 : Int32) (x4 : Int32) (n : Nat) (x5 : Int32) (x6 : Int32) (ls : Array Slot) (_ : lv_has ls 8 [(0, .ref (a0 0)), (1, .int x1), (2, .int x2), (3, .int x3), (4, .int x4), (5, .int x5), (6, .int x6)]) (res : Int32) (_ : L_X8_mayBe_10 x1 x2 x3 x4 o0 n x5 x6 = some res) (_ : (∀ (ls : Array Slot), lv_has ls 8 [(0, .ref (a0 0)), (1, .int x1), (2, .int x2), (3, .int x3), (4, .int x4), (5, .int res)] → W p l e rmX8_mayBe s m args below meth c s.heap [] 0 0 Q (F0 m 62 ls []))), W p l e rmX8_mayBe s m args below meth c s.heap [] 0 0 Q (F0 m 10 ls []) := by
    intro x1 x2 x3 x4 n
    induction n with
    | zero =>
      intro x5 x6 ls hl res h K0
      exact absurd h (fun q : (none : Option (Int32)) = some res => by cases q)
    | succ n ih =>
      intro x5 x6 ls hl res h K0
      have h : L_X8_mayBe_10_step x1 x2 x3 x4 o0 (L_X8_mayBe_10 x1 x2 x3 x4 o0 n) x5 x6 = some res := h
      unfold L_X8_mayBe_10_step at h
      refine lv_iload hx hb dX8_mayBe_10 (lv_at hl 6 rfl) ?_
      refine lv_aload_n hx hb dX8_mayBe_12 rfl (lv_at hl 0 rfl) ?_
      refine va_get (D := D) (ci := 8) (v := .ref (a0 6)) (C := RX8) (T := TX8) (N := 27) hx hb hts hinX8 hown hK.1 hP 0 rfl rfl 5 (by decide) lkf22 (fun _ h9 => h9) rfl dX8_mayBe_13 ?_
      refine lv_iconst (v := (0 : Int32)) hx hb dX8_mayBe_16 (by decide) ?_
      refine iald (q0 := 0) (t0 := 0) (j := 0) hx hb hK hP 5 rfl rfl (vp_in_iff.mpr (by decide)) dX8_mayBe_17 ?_
      refine lv_icmp_ge (tgt := 62) hx hb dX8_mayBe_18 (by decide) (fun hc => ?_) (fun hc => ?_)
      · have h := if_t hc h
        cases h
        exact K0 _ (lv_sub hl [0, 1, 2, 3, 4, 5] rfl)
      · have h := if_f hc h
        refine lv_iload hx hb dX8_mayBe_21 (lv_at hl 5 rfl) ?_
        refine lv_if_eq (tgt := 53) hx hb dX8_mayBe_23 (by decide) (fun hc => ?_) (fun hc => ?_)
        · have h := if_t hc h
          refine lv_iconst (v := (0 : Int32)) hx hb dX8_mayBe_53 (by decide) ?_
          refine lv_istore (lv' := [(5, .int (0 : Int32)), (0, .ref (a0 0)), (1, .int x1), (2, .int x2), (3, .int x3), (4, .int x4), (6, .int x6)]) hx hb dX8_mayBe_54 hl (by decide) rfl (fun ls hl => ?_)
          obtain ⟨v1, ev1⟩ : ∃ y : Int32, y = x6 + (1 : Int32) := ⟨_, rfl⟩
          refine lv_iinc (v := v1) (lv' := [(6, .int v1), (5, .int (0 : Int32)), (0, .ref (a0 0)), (1, .int x1), (2, .int x2), (3, .int x3), (4, .int x4)]) hx hb dX8_mayBe_56 hl (k := 6) rfl (by rw [ev1]; rfl) (by decide) rfl (fun ls hl => ?_)
          have h := nm_ap ev1 h
          refine lv_goto (tgt := 10) hx hb dX8_mayBe_59 (by decide) ?_
          exact ih (0 : Int32) v1 ls (lv_sub hl [2, 3, 4, 5, 6, 1, 0] rfl) _ h K0
        · have h := if_f hc h
          refine lv_iload_n hx hb dX8_mayBe_26 rfl (lv_at hl 2 rfl) ?_
          refine lv_iload hx hb dX8_mayBe_27 (lv_at hl 6 rfl) ?_
          obtain ⟨z2, hz2, h⟩ := bd_some h
          refine cR_S (As := [.int x2, .int x6]) (rest := []) ⟨hx, hb, hml, hown, hts⟩ (c_X8_has l D cA  x2 x6 z2 hz2) (va_cwS 2 hts gX8_mayBe_X8_has rfl rfl rfl hd_X8_has.2 ⟨(Nat.le_of_ble_eq_true rfl), (Nat.le_of_ble_eq_true rfl)⟩) hK hP [] rfl rfl hl.1 rfl (Nat.le_of_ble_eq_true rfl) dX8_mayBe_29 ⟨(Nat.le_of_ble_eq_true rfl), (Nat.le_of_ble_eq_true rfl)⟩ ?_
          refine lv_if_eq (tgt := 49) hx hb dX8_mayBe_32 (by decide) (fun hc => ?_) (fun hc => ?_)
          · have h := if_t hc h
            refine lv_iconst (v := (1 : Int32)) hx hb dX8_mayBe_49 (by decide) ?_
            refine lv_goto (tgt := 54) hx hb dX8_mayBe_50 (by decide) ?_
            refine lv_istore (lv' := [(5, .int (1 : Int32)), (0, .ref (a0 0)), (1, .int x1), (2, .int x2), (3, .int x3), (4, .int x4), (6, .int x6)]) hx hb dX8_mayBe_54 hl (by decide) rfl (fun ls hl => ?_)
            obtain ⟨v3, ev3⟩ : ∃ y : Int32, y = x6 + (1 : Int32) := ⟨_, rfl⟩
            refine lv_iinc (v := v3) (lv' := [(6, .int v3), (5, .int (1 : Int32)), (0, .ref (a0 0)), (1, .int x1), (2, .int x2), (3, .int x3), (4, .int x4)]) hx hb dX8_mayBe_56 hl (k := 6) rfl (by rw [ev3]; rfl) (by decide) rfl (fun ls hl => ?_)
            have h := nm_ap ev3 h
            refine lv_goto (tgt := 10) hx hb dX8_mayBe_59 (by decide) ?_
            exact ih (1 : Int32) v3 ls (lv_sub hl [2, 3, 4, 5, 6, 1, 0] rfl) _ h K0
          · have h := if_f hc h
            refine lv_aload_n hx hb dX8_mayBe_35 rfl (lv_at hl 0 rfl) ?_
            refine va_get (D := D) (ci := 8) (v := .ref (a0 9)) (C := RX8) (T := TX8) (N := 27) hx hb hts hinX8 hown hK.1 hP 0 rfl rfl 8 (by decide) lkf31 (fun _ h9 => h9) rfl dX8_mayBe_36 ?_
            refine lv_iload hx hb dX8_mayBe_39 (lv_at hl 6 rfl) ?_
            obtain ⟨hi4, h⟩ := gd_some h
            refine iald (q0 := 0) (t0 := 0) (j := x6.toNatClampNeg) hx hb hK hP 8 rfl rfl (ck_in hi4) dX8_mayBe_41 ?_
            refine lv_iload_n hx hb dX8_mayBe_42 rfl (lv_at hl 1 rfl) ?_
            obtain ⟨z5, hz5, h⟩ := bd_some h
            refine cR_S (As := [.int (o0.2 8 x6.toNatClampNeg), .int x1]) (rest := []) ⟨hx, hb, hml, hown, hts⟩ (c_X8_has l D cA  (o0.2 8 x6.toNatClampNeg) x1 z5 hz5) (va_cwS 2 hts gX8_mayBe_X8_has rfl rfl rfl hd_X8_has.2 ⟨(Nat.le_of_ble_eq_true rfl), (Nat.le_of_ble_eq_true rfl)⟩) hK hP [] rfl rfl hl.1 rfl (Nat.le_of_ble_eq_true rfl) dX8_mayBe_43 ⟨(Nat.le_of_ble_eq_true rfl), (Nat.le_of_ble_eq_true rfl)⟩ ?_
            refine lv_if_ne (tgt := 53) hx hb dX8_mayBe_46 (by decide) (fun hc => ?_) (fun hc => ?_)
            · have h := if_f hc h
              refine lv_iconst (v := (0 : Int32)) hx hb dX8_mayBe_53 (by decide) ?_
              refine lv_istore (lv' := [(5, .int (0 : Int32)), (0, .ref (a0 0)), (1, .int x1), (2, .int x2), (3, .int x3), (4, .int x4), (6, .int x6)]) hx hb dX8_mayBe_54 hl (by decide) rfl (fun ls hl => ?_)
              obtain ⟨v6, ev6⟩ : ∃ y : Int32, y = x6 + (1 : Int32) := ⟨_, rfl⟩
              refine lv_iinc (v := v6) (lv' := [(6, .int v6), (5, .int (0 : Int32)), (0, .ref (a0 0)), (1, .int x1), (2, .int x2), (3, .int x3), (4, .int x4)]) hx hb dX8_mayBe_56 hl (k := 6) rfl (by rw [ev6]; rfl) (by decide) rfl (fun ls hl => ?_)
              have h := nm_ap ev6 h
              refine lv_goto (tgt := 10) hx hb dX8_mayBe_59 (by decide) ?_
              exact ih (0 : Int32) v6 ls (lv_sub hl [2, 3, 4, 5, 6, 1, 0] rfl) _ h K0
            · have h := if_t hc h
              refine lv_iconst (v := (1 : Int32)) hx hb dX8_mayBe_49 (by decide) ?_
              refine lv_goto (tgt := 54) hx hb dX8_mayBe_50 (by decide) ?_
              refine lv_istore (lv' := [(5, .int (1 : Int32)), (0, .ref (a0 0)), (1, .int x1), (2, .int x2), (3, .int x3), (4, .int x4), (6, .int x6)]) hx hb dX8_mayBe_54 hl (by decide) rfl (fun ls hl => ?_)
              obtain ⟨v7, ev7⟩ : ∃ y : Int32, y = x6 + (1 : Int32) := ⟨_, rfl⟩
              refine lv_iinc (v := v7) (lv' := [(6, .int v7), (5, .int (1 : Int32)), (0, .ref (a0 0)), (1, .int x1), (2, .int x2), (3, .int x3), (4, .int x4)]) hx hb dX8_mayBe_56 hl (k := 6) rfl (by rw [ev7]; rfl) (by decide) rfl (fun ls hl => ?_)
              have h := nm_ap ev7 h
              refine lv_goto (tgt := 10) hx hb dX8_mayBe_59 (by decide) ?_
              exact ih (1 : Int32) v7 ls (lv_sub hl [2, 3, 4, 5, 6, 1, 0] rfl) _ h K0
  have JP0_141 : ∀ (k0 : Int32) (x1 : Int32) (x2 : Int32) (ls : Array Slot) (_ : lv_has ls 8 [(0, .ref (a0 0)), (1, .int x1), (2, .int x2)]) (_ : J_X8_mayBe_141 k0 x1 x2 o0 = some r), W p l e rmX8_mayBe s m args below meth c s.heap [] 0 0 Q (F0 m 141 ls [.int k0]) := by
    intro k0 x1 x2 ls hl h
    unfold J_X8_mayBe_141 at h
    refine lv_istore (lv' := [(5, .int k0), (0, .ref (a0 0)), (1, .int x1), (2, .int x2)]) hx hb dX8_mayBe_141 hl (by decide) rfl (fun ls hl => ?_)
    refine lv_aload_n hx hb dX8_mayBe_143 rfl (lv_at hl 1 rfl) ?_
    refine lv_aload_n hx hb dX8_mayBe_144 rfl (lv_at hl 1 rfl) ?_
    refine va_get (D := D) (ci := 8) (v := .ref (a0 7)) (C := RX8) (T := TX8) (N := 27) hx hb hts hinX8 hown hK.1 hP 0 rfl rfl 6 (by decide) lkf25 (fun _ h9 => h9) rfl dX8_mayBe_145 ?_
    refine lv_iload_n hx hb dX8_mayBe_148 rfl (lv_at hl 2 rfl) ?_
    obtain ⟨hi1, h⟩ := gd_some h
    refine iald (q0 := 0) (t0 := 0) (j := x1.toNatClampNeg) hx hb hK hP 6 rfl rfl (ck_in hi1) dX8_mayBe_149 ?_
    refine lv_iload_n hx hb dX8_mayBe_150 rfl (lv_at hl 3 rfl) ?_
    obtain ⟨z2, hz2, h⟩ := bd_some h
    refine cR_V (As := [.int (o0.2 6 x1.toNatClampNeg), .int x2]) (rest := []) ⟨hx, hb, hml, hown, hts⟩ (c_X8_knotsOf l D cA a0 o0 (o0.2 6 x1.toNatClampNeg) x2 z2 hz2) (cwV 2 hts gX8_mayBe_X8_knotsOf rfl rfl rfl hd_X8_knotsOf ⟨(Nat.le_of_ble_eq_true rfl), (Nat.le_of_ble_eq_true rfl)⟩) (recvK hK hP 0 8 rfl rfl) hK hP [0, 1, 2, 3, 4, 5, 6, 7, 8, 9, 10, 11, 12, 13, 14, 15, 16, 17, 18, 19, 20, 21, 22] rfl rfl hl.1 rfl (Nat.le_of_ble_eq_true rfl) dX8_mayBe_151 ⟨(Nat.le_of_ble_eq_true rfl), (Nat.le_of_ble_eq_true rfl)⟩ ?_
    refine lv_aload_n hx hb dX8_mayBe_154 rfl (lv_at hl 1 rfl) ?_
    refine lv_aload_n hx hb dX8_mayBe_155 rfl (lv_at hl 1 rfl) ?_
    refine va_get (D := D) (ci := 8) (v := .ref (a0 8)) (C := RX8) (T := TX8) (N := 27) hx hb hts hinX8 hown hK.1 hP 0 rfl rfl 7 (by decide) lkf28 (fun _ h9 => h9) rfl dX8_mayBe_156 ?_
    refine lv_iload_n hx hb dX8_mayBe_159 rfl (lv_at hl 2 rfl) ?_
    refine iald (q0 := 0) (t0 := 0) (j := x1.toNatClampNeg) hx hb hK hP 7 rfl rfl (ck_in hi1) dX8_mayBe_160 ?_
    refine lv_iload_n hx hb dX8_mayBe_161 rfl (lv_at hl 3 rfl) ?_
    obtain ⟨z3, hz3, h⟩ := bd_some h
    refine cR_V (As := [.int (o0.2 7 x1.toNatClampNeg), .int x2]) (rest := [.int z2]) ⟨hx, hb, hml, hown, hts⟩ (c_X8_knotsOf l D cA a0 o0 (o0.2 7 x1.toNatClampNeg) x2 z3 hz3) (cwV 2 hts gX8_mayBe_X8_knotsOf rfl rfl rfl hd_X8_knotsOf ⟨(Nat.le_of_ble_eq_true rfl), (Nat.le_of_ble_eq_true rfl)⟩) (recvK hK hP 0 8 rfl rfl) hK hP [0, 1, 2, 3, 4, 5, 6, 7, 8, 9, 10, 11, 12, 13, 14, 15, 16, 17, 18, 19, 20, 21, 22] rfl rfl hl.1 rfl (Nat.le_of_ble_eq_true rfl) dX8_mayBe_162 ⟨(Nat.le_of_ble_eq_true rfl), (Nat.le_of_ble_eq_true rfl)⟩ ?_
    refine lv_ior hx hb dX8_mayBe_165 ?_
    refine lv_topi (fun v4 ev4 => ?_)
    have h := nm_ap ev4 h
    refine lv_istore (lv' := [(7, .int v4), (5, .int k0), (0, .ref (a0 0)), (1, .int x1), (2, .int x2)]) hx hb dX8_mayBe_166 hl (by decide) rfl (fun ls hl => ?_)
    refine lv_iload hx hb dX8_mayBe_168 (lv_at hl 1 rfl) ?_
    refine lv_if_eq (tgt := 198) hx hb dX8_mayBe_170 (by decide) (fun hc => ?_) (fun hc => ?_)
    · have h := if_t hc h
      refine lv_iconst (v := (0 : Int32)) hx hb dX8_mayBe_198 (by decide) ?_
      cases h
      exact hend _ _ (by decide) dX8_mayBe_199
    · have h := if_f hc h
      refine lv_aload_n hx hb dX8_mayBe_173 rfl (lv_at hl 2 rfl) ?_
      refine va_get (D := D) (ci := 8) (v := .ref (a0 11)) (C := RX8) (T := TX8) (N := 27) hx hb hts hinX8 hown hK.1 hP 0 rfl rfl 10 (by decide) lkf37 (fun _ h9 => h9) rfl dX8_mayBe_174 ?_
      refine lv_iload_n hx hb dX8_mayBe_177 rfl (lv_at hl 3 rfl) ?_
      refine iald (q0 := 0) (t0 := 0) (j := x1.toNatClampNeg) hx hb hK hP 10 rfl rfl (ck_in hi1) dX8_mayBe_178 ?_
      refine lv_iconst (v := (3 : Int32)) hx hb dX8_mayBe_179 (by decide) ?_
      refine lv_icmp_ne (tgt := 194) hx hb dX8_mayBe_180 (by decide) (fun hc => ?_) (fun hc => ?_)
      · have h := if_f hc h
        refine lv_iconst (v := (1 : Int32)) hx hb dX8_mayBe_194 (by decide) ?_
        refine lv_goto (tgt := 199) hx hb dX8_mayBe_195 (by decide) ?_
        cases h
        exact hend _ _ (by decide) dX8_mayBe_199
      · have h := if_t hc h
        refine lv_iload hx hb dX8_mayBe_183 (lv_at hl 0 rfl) ?_
        refine lv_iconst (v := (1 : Int32)) hx hb dX8_mayBe_185 (by decide) ?_
        refine lv_iload_n hx hb dX8_mayBe_186 rfl (lv_at hl 3 rfl) ?_
        refine lv_ishl hx hb dX8_mayBe_187 ?_
        refine lv_iconst (v := (-1 : Int32)) hx hb dX8_mayBe_188 (by decide) ?_
        refine lv_ixor hx hb dX8_mayBe_189 ?_
        refine lv_iand hx hb dX8_mayBe_190 ?_
        refine lv_if_ne (tgt := 198) hx hb dX8_mayBe_191 (by decide) (fun hc => ?_) (fun hc => ?_)
        · have h := if_f hc h
          refine lv_iconst (v := (0 : Int32)) hx hb dX8_mayBe_198 (by decide) ?_
          cases h
          exact hend _ _ (by decide) dX8_mayBe_199
        · have h := if_t hc h
          refine lv_iconst (v := (1 : Int32)) hx hb dX8_mayBe_194 (by decide) ?_
          refine lv_goto (tgt := 199) hx hb dX8_mayBe_195 (by decide) ?_
          cases h
          exact hend _ _ (by decide) dX8_mayBe_199
  have JP0_140 : ∀ (x1 : Int32) (x2 : Int32) (ls : Array Slot) (_ : lv_has ls 8 [(0, .ref (a0 0)), (1, .int x1), (2, .int x2)]) (_ : J_X8_mayBe_140 x1 x2 o0 = some r), W p l e rmX8_mayBe s m args below meth c s.heap [] 0 0 Q (F0 m 140 ls []) := by
    intro x1 x2 ls hl h
    unfold J_X8_mayBe_140 at h
    refine lv_iconst (v := (0 : Int32)) hx hb dX8_mayBe_140 (by decide) ?_
    exact JP0_141 (0 : Int32) x1 x2 ls (lv_sub hl [0, 1, 2] rfl) h
  have JP0_136 : ∀ (x1 : Int32) (x2 : Int32) (ls : Array Slot) (_ : lv_has ls 8 [(0, .ref (a0 0)), (1, .int x1), (2, .int x2)]) (_ : J_X8_mayBe_136 x1 x2 o0 = some r), W p l e rmX8_mayBe s m args below meth c s.heap [] 0 0 Q (F0 m 136 ls []) := by
    intro x1 x2 ls hl h
    unfold J_X8_mayBe_136 at h
    refine lv_iconst (v := (1 : Int32)) hx hb dX8_mayBe_136 (by decide) ?_
    refine lv_goto (tgt := 141) hx hb dX8_mayBe_137 (by decide) ?_
    exact JP0_141 (1 : Int32) x1 x2 ls (lv_sub hl [0, 1, 2] rfl) h
  have JP0_108 : ∀ (k0 : Int32) (x1 : Int32) (x2 : Int32) (x4 : Int32) (ls : Array Slot) (_ : lv_has ls 8 [(0, .ref (a0 0)), (1, .int x1), (2, .int x2), (4, .int x4)]) (_ : J_X8_mayBe_108 k0 x1 x2 x4 o0 = some r), W p l e rmX8_mayBe s m args below meth c s.heap [] 0 0 Q (F0 m 108 ls [.int k0]) := by
    intro k0 x1 x2 x4 ls hl h
    unfold J_X8_mayBe_108 at h
    refine lv_istore (lv' := [(5, .int k0), (0, .ref (a0 0)), (1, .int x1), (2, .int x2), (4, .int x4)]) hx hb dX8_mayBe_108 hl (by decide) rfl (fun ls hl => ?_)
    refine lv_iload hx hb dX8_mayBe_110 (lv_at hl 0 rfl) ?_
    refine lv_if_eq (tgt := 140) hx hb dX8_mayBe_112 (by decide) (fun hc => ?_) (fun hc => ?_)
    · have h := if_t hc h
      exact JP0_140 x1 x2 ls (lv_sub hl [1, 2, 3] rfl) h
    · have h := if_f hc h
      refine lv_aload_n hx hb dX8_mayBe_115 rfl (lv_at hl 1 rfl) ?_
      refine va_get (D := D) (ci := 8) (v := .ref (a0 11)) (C := RX8) (T := TX8) (N := 27) hx hb hts hinX8 hown hK.1 hP 0 rfl rfl 10 (by decide) lkf37 (fun _ h9 => h9) rfl dX8_mayBe_116 ?_
      refine lv_iload_n hx hb dX8_mayBe_119 rfl (lv_at hl 2 rfl) ?_
      obtain ⟨hi1, h⟩ := gd_some h
      refine iald (q0 := 0) (t0 := 0) (j := x1.toNatClampNeg) hx hb hK hP 10 rfl rfl (ck_in hi1) dX8_mayBe_120 ?_
      refine lv_iconst (v := (2 : Int32)) hx hb dX8_mayBe_121 (by decide) ?_
      refine lv_icmp_ne (tgt := 136) hx hb dX8_mayBe_122 (by decide) (fun hc => ?_) (fun hc => ?_)
      · have h := if_f hc h
        exact JP0_136 x1 x2 ls (lv_sub hl [1, 2, 3] rfl) h
      · have h := if_t hc h
        refine lv_iload hx hb dX8_mayBe_125 (lv_at hl 4 rfl) ?_
        refine lv_aload_n hx hb dX8_mayBe_127 rfl (lv_at hl 1 rfl) ?_
        refine va_get (D := D) (ci := 8) (v := .ref (a0 10)) (C := RX8) (T := TX8) (N := 27) hx hb hts hinX8 hown hK.1 hP 0 rfl rfl 9 (by decide) lkf34 (fun _ h9 => h9) rfl dX8_mayBe_128 ?_
        refine lv_iload_n hx hb dX8_mayBe_131 rfl (lv_at hl 2 rfl) ?_
        refine iald (q0 := 0) (t0 := 0) (j := x1.toNatClampNeg) hx hb hK hP 9 rfl rfl (ck_in hi1) dX8_mayBe_132 ?_
        refine lv_icmp_lt (tgt := 140) hx hb dX8_mayBe_133 (by decide) (fun hc => ?_) (fun hc => ?_)
        · have h := if_t hc h
          exact JP0_140 x1 x2 ls (lv_sub hl [1, 2, 3] rfl) h
        · have h := if_f hc h
          exact JP0_136 x1 x2 ls (lv_sub hl [1, 2, 3] rfl) h
  have JP0_107 : ∀ (x1 : Int32) (x2 : Int32) (x4 : Int32) (ls : Array Slot) (_ : lv_has ls 8 [(0, .ref (a0 0)), (1, .int x1), (2, .int x2), (4, .int x4)]) (_ : J_X8_mayBe_107 x1 x2 x4 o0 = some r), W p l e rmX8_mayBe s m args below meth c s.heap [] 0 0 Q (F0 m 107 ls []) := by
    intro x1 x2 x4 ls hl h
    unfold J_X8_mayBe_107 at h
    refine lv_iconst (v := (0 : Int32)) hx hb dX8_mayBe_107 (by decide) ?_
    exact JP0_108 (0 : Int32) x1 x2 x4 ls (lv_sub hl [0, 1, 2, 3] rfl) h
  refine lv_iload_n hx hb dX8_mayBe_0 rfl (lv_at hl 2 rfl) ?_
  refine lv_iload_n hx hb dX8_mayBe_1 rfl (lv_at hl 1 rfl) ?_
  obtain ⟨z1, hz1, h⟩ := bd_some h
  refine cR_S (As := [.int x2, .int x1]) (rest := []) ⟨hx, hb, hml, hown, hts⟩ (c_X8_has l D cA  x2 x1 z1 hz1) (va_cwS 2 hts gX8_mayBe_X8_has rfl rfl rfl hd_X8_has.2 ⟨(Nat.le_of_ble_eq_true rfl), (Nat.le_of_ble_eq_true rfl)⟩) hK hP [] rfl rfl hl.1 rfl (Nat.le_of_ble_eq_true rfl) dX8_mayBe_2 ⟨(Nat.le_of_ble_eq_true rfl), (Nat.le_of_ble_eq_true rfl)⟩ ?_
  refine lv_istore (lv' := [(5, .int z1), (0, .ref (a0 0)), (1, .int x1), (2, .int x2), (3, .int x3), (4, .int x4)]) hx hb dX8_mayBe_5 hl (by decide) rfl (fun ls hl => ?_)
  refine lv_iconst (v := (0 : Int32)) hx hb dX8_mayBe_7 (by decide) ?_
  refine lv_istore (lv' := [(6, .int (0 : Int32)), (5, .int z1), (0, .ref (a0 0)), (1, .int x1), (2, .int x2), (3, .int x3), (4, .int x4)]) hx hb dX8_mayBe_8 hl (by decide) rfl (fun ls hl => ?_)
  obtain ⟨z2, hz2, h⟩ := bd_some h
  refine LP10 x1 x2 x3 x4 512 z1 (0 : Int32) ls (lv_sub hl [2, 3, 4, 5, 6, 1, 0] rfl) _ hz2 ?_
  · intro ls hl
    refine lv_iload_n hx hb dX8_mayBe_62 rfl (lv_at hl 3 rfl) ?_
    refine lv_aload_n hx hb dX8_mayBe_63 rfl (lv_at hl 0 rfl) ?_
    refine va_get (D := D) (ci := 8) (v := .ref (a0 7)) (C := RX8) (T := TX8) (N := 27) hx hb hts hinX8 hown hK.1 hP 0 rfl rfl 6 (by decide) lkf25 (fun _ h9 => h9) rfl dX8_mayBe_64 ?_
    refine lv_iload_n hx hb dX8_mayBe_67 rfl (lv_at hl 1 rfl) ?_
    obtain ⟨hi3, h⟩ := gd_some h
    refine iald (q0 := 0) (t0 := 0) (j := x1.toNatClampNeg) hx hb hK hP 6 rfl rfl (ck_in hi3) dX8_mayBe_68 ?_
    refine lv_ishr hx hb dX8_mayBe_69 ?_
    refine lv_iconst (v := (1 : Int32)) hx hb dX8_mayBe_70 (by decide) ?_
    refine lv_iand hx hb dX8_mayBe_71 ?_
    refine lv_iload_n hx hb dX8_mayBe_72 rfl (lv_at hl 3 rfl) ?_
    refine lv_aload_n hx hb dX8_mayBe_73 rfl (lv_at hl 0 rfl) ?_
    refine va_get (D := D) (ci := 8) (v := .ref (a0 8)) (C := RX8) (T := TX8) (N := 27) hx hb hts hinX8 hown hK.1 hP 0 rfl rfl 7 (by decide) lkf28 (fun _ h9 => h9) rfl dX8_mayBe_74 ?_
    refine lv_iload_n hx hb dX8_mayBe_77 rfl (lv_at hl 1 rfl) ?_
    refine iald (q0 := 0) (t0 := 0) (j := x1.toNatClampNeg) hx hb hK hP 7 rfl rfl (ck_in hi3) dX8_mayBe_78 ?_
    refine lv_ishr hx hb dX8_mayBe_79 ?_
    refine lv_iconst (v := (1 : Int32)) hx hb dX8_mayBe_80 (by decide) ?_
    refine lv_iand hx hb dX8_mayBe_81 ?_
    refine lv_iadd hx hb dX8_mayBe_82 ?_
    refine lv_topi (fun v4 ev4 => ?_)
    have h := nm_ap ev4 h
    refine lv_istore (lv' := [(6, .int v4), (0, .ref (a0 0)), (1, .int x1), (2, .int x2), (3, .int x3), (4, .int x4), (5, .int z2)]) hx hb dX8_mayBe_83 hl (by decide) rfl (fun ls hl => ?_)
    refine lv_iload hx hb dX8_mayBe_85 (lv_at hl 6 rfl) ?_
    refine lv_if_eq (tgt := 107) hx hb dX8_mayBe_87 (by decide) (fun hc => ?_) (fun hc => ?_)
    · have h := if_t hc h
      exact JP0_107 x1 x2 x4 ls (lv_sub hl [1, 2, 3, 5] rfl) h
    · have h := if_f hc h
      refine lv_iload hx hb dX8_mayBe_90 (lv_at hl 0 rfl) ?_
      refine lv_iconst (v := (2 : Int32)) hx hb dX8_mayBe_92 (by decide) ?_
      refine lv_aload_n hx hb dX8_mayBe_93 rfl (lv_at hl 1 rfl) ?_
      refine va_get (D := D) (ci := 8) (v := .ref (a0 5)) (C := RX8) (T := TX8) (N := 27) hx hb hts hinX8 hown hK.1 hP 0 rfl rfl 4 (by decide) lkf19 (fun _ h9 => h9) rfl dX8_mayBe_94 ?_
      refine lv_iconst (v := (0 : Int32)) hx hb dX8_mayBe_97 (by decide) ?_
      refine iald (q0 := 0) (t0 := 0) (j := 0) hx hb hK hP 4 rfl rfl (vp_in_iff.mpr (by decide)) dX8_mayBe_98 ?_
      refine lv_isub hx hb dX8_mayBe_99 ?_
      refine lv_icmp_lt (tgt := 107) hx hb dX8_mayBe_100 (by decide) (fun hc => ?_) (fun hc => ?_)
      · have h := if_t hc h
        exact JP0_107 x1 x2 x4 ls (lv_sub hl [1, 2, 3, 5] rfl) h
      · have h := if_f hc h
        refine lv_iconst (v := (1 : Int32)) hx hb dX8_mayBe_103 (by decide) ?_
        refine lv_goto (tgt := 108) hx hb dX8_mayBe_104 (by decide) ?_
        exact JP0_108 (1 : Int32) x1 x2 x4 ls (lv_sub hl [1, 2, 3, 5] rfl) h
abbrev rmX8_may : Room := ({ frames := 3, cells := 0, slots := 0, locals := 72 } : Room)
set_option maxHeartbeats 4000000 in
set_option maxRecDepth 100000 in
theorem c_X8_may (l : Launch) (D : va_G) (cA : ClassId) (a0 : (Nat → Nat)) (o0 : Ob) (x1 : Int32) (r : Int32) (h : f_X8_may o0 x1 = some r) : ConR l yX8_may wsX8_may rmX8_may D cA [.ref (a0 0), .int x1] (wX8 cA a0 o0) r := by
  refine ConR.enter (cc := cX8_may) (maxL := 2) (by decide) rfl (Nat.le_of_ble_eq_true rfl) ?_
  intro p e s m args below meth c Q hx hb hml hown hts hK hP  hend ls hl
  have hl : lv_has ls 2 [(0, .ref (a0 0)), (1, .int x1)] := hl
  unfold f_X8_may at h
  have lkf40 := hts (.fieldLink RX8 40 "TiedToTownModel" "tied" "[I") (List.mem_of_getElem? (i := 1) rfl)
  have hinX8 : ∀ w ∈ wsX80, w ∈ wsX8_may := fun w h => List.mem_cons_of_mem _ (List.mem_append_right _ h)
  have lkf16 := hts (.fieldLink RX8 16 "TiedToTownModel" "alive" "[I") (List.mem_of_getElem? (i := 2) rfl)
  have lkf43 := hts (.fieldLink RX8 43 "TiedToTownModel" "day" "[I") (List.mem_of_getElem? (i := 3) rfl)
  refine lv_aload_n hx hb dX8_may_0 rfl (lv_at hl 0 rfl) ?_
  refine lv_iload_n hx hb dX8_may_1 rfl (lv_at hl 1 rfl) ?_
  obtain ⟨z1, hz1, h⟩ := bd_some h
  refine cR_V (As := [.int x1]) (rest := []) ⟨hx, hb, hml, hown, hts⟩ (c_X8_isThere l D cA a0 o0 x1 z1 hz1) (cwV 1 hts gX8_may_X8_isThere rfl rfl rfl hd_X8_isThere ⟨(Nat.le_of_ble_eq_true rfl), (Nat.le_of_ble_eq_true rfl)⟩) (recvK hK hP 0 8 rfl rfl) hK hP [0, 1, 2, 3, 4, 5, 6, 7, 8, 9, 10, 11, 12, 13, 14, 15, 16, 17, 18, 19, 20, 21, 22] rfl rfl hl.1 rfl (Nat.le_of_ble_eq_true rfl) dX8_may_2 ⟨(Nat.le_of_ble_eq_true rfl), (Nat.le_of_ble_eq_true rfl)⟩ ?_
  refine lv_if_ne (tgt := 12) hx hb dX8_may_5 (by decide) (fun hc => ?_) (fun hc => ?_)
  · have h := if_f hc h
    refine lv_aload_n hx hb dX8_may_12 rfl (lv_at hl 0 rfl) ?_
    refine lv_iload_n hx hb dX8_may_13 rfl (lv_at hl 1 rfl) ?_
    refine lv_aload_n hx hb dX8_may_14 rfl (lv_at hl 0 rfl) ?_
    refine va_get (D := D) (ci := 8) (v := .ref (a0 12)) (C := RX8) (T := TX8) (N := 27) hx hb hts hinX8 hown hK.1 hP 0 rfl rfl 11 (by decide) lkf40 (fun _ h9 => h9) rfl dX8_may_15 ?_
    refine lv_iconst (v := (0 : Int32)) hx hb dX8_may_18 (by decide) ?_
    refine iald (q0 := 0) (t0 := 0) (j := 0) hx hb hK hP 11 rfl rfl (vp_in_iff.mpr (by decide)) dX8_may_19 ?_
    refine lv_aload_n hx hb dX8_may_20 rfl (lv_at hl 0 rfl) ?_
    refine va_get (D := D) (ci := 8) (v := .ref (a0 4)) (C := RX8) (T := TX8) (N := 27) hx hb hts hinX8 hown hK.1 hP 0 rfl rfl 3 (by decide) lkf16 (fun _ h9 => h9) rfl dX8_may_21 ?_
    refine lv_iconst (v := (0 : Int32)) hx hb dX8_may_24 (by decide) ?_
    refine iald (q0 := 0) (t0 := 0) (j := 0) hx hb hK hP 3 rfl rfl (vp_in_iff.mpr (by decide)) dX8_may_25 ?_
    refine lv_aload_n hx hb dX8_may_26 rfl (lv_at hl 0 rfl) ?_
    refine va_get (D := D) (ci := 8) (v := .ref (a0 13)) (C := RX8) (T := TX8) (N := 27) hx hb hts hinX8 hown hK.1 hP 0 rfl rfl 12 (by decide) lkf43 (fun _ h9 => h9) rfl dX8_may_27 ?_
    refine lv_iconst (v := (0 : Int32)) hx hb dX8_may_30 (by decide) ?_
    refine iald (q0 := 0) (t0 := 0) (j := 0) hx hb hK hP 12 rfl rfl (vp_in_iff.mpr (by decide)) dX8_may_31 ?_
    obtain ⟨z2, hz2, h⟩ := bd_some h
    refine cR_V (As := [.int x1, .int (o0.2 11 0), .int (o0.2 3 0), .int (o0.2 12 0)]) (rest := []) ⟨hx, hb, hml, hown, hts⟩ (c_X8_mayBe l D cA a0 o0 x1 (o0.2 11 0) (o0.2 3 0) (o0.2 12 0) z2 hz2) (cwV 4 hts gX8_may_X8_mayBe rfl rfl rfl hd_X8_mayBe ⟨(Nat.le_of_ble_eq_true rfl), (Nat.le_of_ble_eq_true rfl)⟩) (recvK hK hP 0 8 rfl rfl) hK hP [0, 1, 2, 3, 4, 5, 6, 7, 8, 9, 10, 11, 12, 13, 14, 15, 16, 17, 18, 19, 20, 21, 22] rfl rfl hl.1 rfl (Nat.le_of_ble_eq_true rfl) dX8_may_32 ⟨(Nat.le_of_ble_eq_true rfl), (Nat.le_of_ble_eq_true rfl)⟩ ?_
    refine lv_if_eq (tgt := 42) hx hb dX8_may_35 (by decide) (fun hc => ?_) (fun hc => ?_)
    · have h := if_t hc h
      refine lv_iconst (v := (0 : Int32)) hx hb dX8_may_42 (by decide) ?_
      cases h
      exact hend _ _ dX8_may_43
    · have h := if_f hc h
      refine lv_iconst (v := (1 : Int32)) hx hb dX8_may_38 (by decide) ?_
      refine lv_goto (tgt := 43) hx hb dX8_may_39 (by decide) ?_
      cases h
      exact hend _ _ dX8_may_43
  · have h := if_t hc h
    refine lv_iconst (v := (-1 : Int32)) hx hb dX8_may_8 (by decide) ?_
    refine lv_goto (tgt := 43) hx hb dX8_may_9 (by decide) ?_
    cases h
    exact hend _ _ dX8_may_43
abbrev rmX8_note : Room := ({ frames := 0, cells := 0, slots := 0, locals := 0 } : Room)
set_option maxHeartbeats 4000000 in
set_option maxRecDepth 100000 in
theorem c_X8_note (l : Launch) (D : va_G) (cA : ClassId) (a0 : (Nat → Nat)) (o0 : Ob) (o0_ : Ob) (h : f_X8_note o0 = some o0_) : ConV l yX8_note wsX8_note rmX8_note D cA [.ref (a0 0)] (wX8 cA a0 o0) (wX8 cA a0 o0_) := by
  refine ConV.enter (cc := cX8_note) (maxL := 2) (by decide) rfl (Nat.le_of_ble_eq_true rfl) ?_
  intro p e s m args below meth c Q A hx hb hml hown hts hK hP hD hA hend ls hl
  have hS : va_S A s.heap s.heap [] := va_S.rf
  have hl : lv_has ls 2 [(0, .ref (a0 0))] := hl
  unfold f_X8_note at h
  have lkf134 := hts (.fieldLink RX8 134 "TiedToTownModel" "doneMany" "I") (List.mem_of_getElem? (i := 1) rfl)
  have hinX8 : ∀ w ∈ wsX80, w ∈ wsX8_note := fun w h => List.mem_cons_of_mem _ (List.mem_append_right _ h)
  have lkf46 := hts (.fieldLink RX8 46 "TiedToTownModel" "done" "[I") (List.mem_of_getElem? (i := 2) rfl)
  have lkf22 := hts (.fieldLink RX8 22 "TiedToTownModel" "many" "[I") (List.mem_of_getElem? (i := 3) rfl)
  have lkf40 := hts (.fieldLink RX8 40 "TiedToTownModel" "tied" "[I") (List.mem_of_getElem? (i := 4) rfl)
  have lkf43 := hts (.fieldLink RX8 43 "TiedToTownModel" "day" "[I") (List.mem_of_getElem? (i := 5) rfl)
  have LP11 : ∀ (n : Nat) (x1 : Int32) (o0 : Ob) (H : Heap) (locs : List Loc) (_ : va_P D vwCl (wX8 cA a0 o0) H) (_ : va_D A (wX8 cA a0 o0)) (_ : va_S A s.heap H locs) (ls : Array Slot) (_ : lv_has ls 2 [(0, .ref (a0 0)), (1, .int x1)]) (res : Ob) (_ : L_X8_note_11 n x1 o0 = some res) (_ : (∀ (H : Heap) (locs : List Loc) (_ : va_P D vwCl (wX8 cA a0 res) H) (_ : va_D A (wX8 cA a0 res)) (_ : va_S A s.heap H locs) (ls : Array Slot), lv_has ls 2 [(0, .ref (a0 0))] → W p l e rmX8_note s m args below meth c H locs 0 0 Q (F0 m 37 ls []))), W p l e rmX8_note s m args below meth c H locs 0 0 Q (F0 m 11 ls []) := by
    intro n
    induction n with
    | zero =>
      intro x1 o0 H locs hP hD hS ls hl res h K0
      exact absurd h (fun q : (none : Option (Ob)) = some res => by cases q)
    | succ n ih =>
      intro x1 o0 H locs hP hD hS ls hl res h K0
      have h : L_X8_note_11_step (L_X8_note_11 n) x1 o0 = some res := h
      unfold L_X8_note_11_step at h
      refine lv_iload_n hx hb dX8_note_11 rfl (lv_at hl 1 rfl) ?_
      refine lv_bipush (v := (21 : Int32)) hx hb dX8_note_12 (by decide) ?_
      refine lv_icmp_ge (tgt := 37) hx hb dX8_note_14 (by decide) (fun hc => ?_) (fun hc => ?_)
      · have h := if_t hc h
        cases h
        exact K0 _ _ hP hD hS _ (lv_sub hl [0] rfl)
      · have h := if_f hc h
        refine lv_aload_n hx hb dX8_note_17 rfl (lv_at hl 0 rfl) ?_
        refine va_get (D := D) (ci := 8) (v := .ref (a0 16)) (C := RX8) (T := TX8) (N := 27) hx hb hts hinX8 hown hK.1 hP 0 rfl rfl 15 (by decide) lkf46 (fun _ h9 => h9) rfl dX8_note_18 ?_
        refine lv_iload_n hx hb dX8_note_21 rfl (lv_at hl 1 rfl) ?_
        refine lv_aload_n hx hb dX8_note_22 rfl (lv_at hl 0 rfl) ?_
        refine va_get (D := D) (ci := 8) (v := .ref (a0 16)) (C := RX8) (T := TX8) (N := 27) hx hb hts hinX8 hown hK.1 hP 0 rfl rfl 15 (by decide) lkf46 (fun _ h9 => h9) rfl dX8_note_23 ?_
        refine lv_iload_n hx hb dX8_note_26 rfl (lv_at hl 1 rfl) ?_
        refine lv_iconst (v := (3 : Int32)) hx hb dX8_note_27 (by decide) ?_
        refine lv_iadd hx hb dX8_note_28 ?_
        obtain ⟨hi1, h⟩ := gd_some h
        refine iald (q0 := 0) (t0 := 0) (j := (x1 + (3 : Int32)).toNatClampNeg) hx hb hK hP 13 rfl rfl (ck_in hi1) dX8_note_29 ?_
        obtain ⟨hi2, h⟩ := gd_some h
        refine iast (j := x1.toNatClampNeg) (wn := (wX8 cA a0 (sA o0 15 x1.toNatClampNeg (o0.2 15 (x1 + (3 : Int32)).toNatClampNeg)))) hx hb hK hP hD hS 13 rfl rfl (ck_in hi2) dX8_note_30 rfl (fun H locs hP hD hS => ?_)
        obtain ⟨s3, es3⟩ : ∃ z, z = sA o0 15 x1.toNatClampNeg (o0.2 15 (x1 + (3 : Int32)).toNatClampNeg) := ⟨_, rfl⟩
        rw [← es3] at hP hD
        have h := nm_ap es3 h
        obtain ⟨v4, ev4⟩ : ∃ y : Int32, y = x1 + (1 : Int32) := ⟨_, rfl⟩
        refine lv_iinc (v := v4) (lv' := [(1, .int v4), (0, .ref (a0 0))]) hx hb dX8_note_31 hl (k := 1) rfl (by rw [ev4]; rfl) (by decide) rfl (fun ls hl => ?_)
        have h := nm_ap ev4 h
        refine lv_goto (tgt := 11) hx hb dX8_note_34 (by decide) ?_
        exact ih v4 s3 _ _ hP hD hS ls (lv_sub hl [1, 0] rfl) _ h K0
  have JP0_47 : ∀ (o0 : Ob) (H : Heap) (locs : List Loc) (_ : va_P D vwCl (wX8 cA a0 o0) H) (_ : va_D A (wX8 cA a0 o0)) (_ : va_S A s.heap H locs) (ls : Array Slot) (_ : lv_has ls 2 [(0, .ref (a0 0))]) (_ : J_X8_note_47 o0 = some o0_), W p l e rmX8_note s m args below meth c H locs 0 0 Q (F0 m 47 ls []) := by
    intro o0 H locs hP hD hS ls hl h
    unfold J_X8_note_47 at h
    refine lv_aload_n hx hb dX8_note_47 rfl (lv_at hl 0 rfl) ?_
    refine va_get (D := D) (ci := 8) (v := .ref (a0 16)) (C := RX8) (T := TX8) (N := 27) hx hb hts hinX8 hown hK.1 hP 0 rfl rfl 15 (by decide) lkf46 (fun _ h9 => h9) rfl dX8_note_48 ?_
    refine lv_iconst (v := (3 : Int32)) hx hb dX8_note_51 (by decide) ?_
    refine lv_aload_n hx hb dX8_note_52 rfl (lv_at hl 0 rfl) ?_
    refine va_get (D := D) (ci := 8) (v := .int (o0.1 14)) (C := RX8) (T := TX8) (N := 27) hx hb hts hinX8 hown hK.1 hP 0 rfl rfl 14 (by decide) lkf134 (fun _ h9 => h9) rfl dX8_note_53 ?_
    refine lv_imul hx hb dX8_note_56 ?_
    refine lv_aload_n hx hb dX8_note_57 rfl (lv_at hl 0 rfl) ?_
    refine va_get (D := D) (ci := 8) (v := .ref (a0 6)) (C := RX8) (T := TX8) (N := 27) hx hb hts hinX8 hown hK.1 hP 0 rfl rfl 5 (by decide) lkf22 (fun _ h9 => h9) rfl dX8_note_58 ?_
    refine lv_iconst (v := (0 : Int32)) hx hb dX8_note_61 (by decide) ?_
    refine iald (q0 := 0) (t0 := 0) (j := 0) hx hb hK hP 5 rfl rfl (vp_in_iff.mpr (by decide)) dX8_note_62 ?_
    obtain ⟨hi1, h⟩ := gd_some h
    refine iast (j := ((3 : Int32) * (o0.1 14)).toNatClampNeg) (wn := (wX8 cA a0 (sA o0 15 ((3 : Int32) * (o0.1 14)).toNatClampNeg (o0.2 5 0)))) hx hb hK hP hD hS 13 rfl rfl (ck_in hi1) dX8_note_63 rfl (fun H locs hP hD hS => ?_)
    obtain ⟨s2, es2⟩ : ∃ z, z = sA o0 15 ((3 : Int32) * (o0.1 14)).toNatClampNeg (o0.2 5 0) := ⟨_, rfl⟩
    rw [← es2] at hP hD
    have h := nm_ap es2 h
    refine lv_aload_n hx hb dX8_note_64 rfl (lv_at hl 0 rfl) ?_
    refine va_get (D := D) (ci := 8) (v := .ref (a0 16)) (C := RX8) (T := TX8) (N := 27) hx hb hts hinX8 hown hK.1 hP 0 rfl rfl 15 (by decide) lkf46 (fun _ h9 => h9) rfl dX8_note_65 ?_
    refine lv_iconst (v := (3 : Int32)) hx hb dX8_note_68 (by decide) ?_
    refine lv_aload_n hx hb dX8_note_69 rfl (lv_at hl 0 rfl) ?_
    refine va_get (D := D) (ci := 8) (v := .int (s2.1 14)) (C := RX8) (T := TX8) (N := 27) hx hb hts hinX8 hown hK.1 hP 0 rfl rfl 14 (by decide) lkf134 (fun _ h9 => h9) rfl dX8_note_70 ?_
    refine lv_imul hx hb dX8_note_73 ?_
    refine lv_iconst (v := (1 : Int32)) hx hb dX8_note_74 (by decide) ?_
    refine lv_iadd hx hb dX8_note_75 ?_
    refine lv_aload_n hx hb dX8_note_76 rfl (lv_at hl 0 rfl) ?_
    refine va_get (D := D) (ci := 8) (v := .ref (a0 12)) (C := RX8) (T := TX8) (N := 27) hx hb hts hinX8 hown hK.1 hP 0 rfl rfl 11 (by decide) lkf40 (fun _ h9 => h9) rfl dX8_note_77 ?_
    refine lv_iconst (v := (0 : Int32)) hx hb dX8_note_80 (by decide) ?_
    refine iald (q0 := 0) (t0 := 0) (j := 0) hx hb hK hP 11 rfl rfl (vp_in_iff.mpr (by decide)) dX8_note_81 ?_
    obtain ⟨hi3, h⟩ := gd_some h
    refine iast (j := (((3 : Int32) * (s2.1 14)) + (1 : Int32)).toNatClampNeg) (wn := (wX8 cA a0 (sA s2 15 (((3 : Int32) * (s2.1 14)) + (1 : Int32)).toNatClampNeg (s2.2 11 0)))) hx hb hK hP hD hS 13 rfl rfl (ck_in hi3) dX8_note_82 rfl (fun H locs hP hD hS => ?_)
    obtain ⟨s4, es4⟩ : ∃ z, z = sA s2 15 (((3 : Int32) * (s2.1 14)) + (1 : Int32)).toNatClampNeg (s2.2 11 0) := ⟨_, rfl⟩
    rw [← es4] at hP hD
    have h := nm_ap es4 h
    refine lv_aload_n hx hb dX8_note_83 rfl (lv_at hl 0 rfl) ?_
    refine va_get (D := D) (ci := 8) (v := .ref (a0 16)) (C := RX8) (T := TX8) (N := 27) hx hb hts hinX8 hown hK.1 hP 0 rfl rfl 15 (by decide) lkf46 (fun _ h9 => h9) rfl dX8_note_84 ?_
    refine lv_iconst (v := (3 : Int32)) hx hb dX8_note_87 (by decide) ?_
    refine lv_aload_n hx hb dX8_note_88 rfl (lv_at hl 0 rfl) ?_
    refine va_get (D := D) (ci := 8) (v := .int (s4.1 14)) (C := RX8) (T := TX8) (N := 27) hx hb hts hinX8 hown hK.1 hP 0 rfl rfl 14 (by decide) lkf134 (fun _ h9 => h9) rfl dX8_note_89 ?_
    refine lv_imul hx hb dX8_note_92 ?_
    refine lv_iconst (v := (2 : Int32)) hx hb dX8_note_93 (by decide) ?_
    refine lv_iadd hx hb dX8_note_94 ?_
    refine lv_aload_n hx hb dX8_note_95 rfl (lv_at hl 0 rfl) ?_
    refine va_get (D := D) (ci := 8) (v := .ref (a0 13)) (C := RX8) (T := TX8) (N := 27) hx hb hts hinX8 hown hK.1 hP 0 rfl rfl 12 (by decide) lkf43 (fun _ h9 => h9) rfl dX8_note_96 ?_
    refine lv_iconst (v := (0 : Int32)) hx hb dX8_note_99 (by decide) ?_
    refine iald (q0 := 0) (t0 := 0) (j := 0) hx hb hK hP 12 rfl rfl (vp_in_iff.mpr (by decide)) dX8_note_100 ?_
    obtain ⟨hi5, h⟩ := gd_some h
    refine iast (j := (((3 : Int32) * (s4.1 14)) + (2 : Int32)).toNatClampNeg) (wn := (wX8 cA a0 (sA s4 15 (((3 : Int32) * (s4.1 14)) + (2 : Int32)).toNatClampNeg (s4.2 12 0)))) hx hb hK hP hD hS 13 rfl rfl (ck_in hi5) dX8_note_101 rfl (fun H locs hP hD hS => ?_)
    obtain ⟨s6, es6⟩ : ∃ z, z = sA s4 15 (((3 : Int32) * (s4.1 14)) + (2 : Int32)).toNatClampNeg (s4.2 12 0) := ⟨_, rfl⟩
    rw [← es6] at hP hD
    have h := nm_ap es6 h
    refine lv_aload_n hx hb dX8_note_102 rfl (lv_at hl 0 rfl) ?_
    refine lv_dup hx hb dX8_note_103 rfl ?_
    refine va_get (D := D) (ci := 8) (v := .int (s6.1 14)) (C := RX8) (T := TX8) (N := 27) hx hb hts hinX8 hown hK.1 hP 0 rfl rfl 14 (by decide) lkf134 (fun _ h9 => h9) rfl dX8_note_104 ?_
    refine lv_iconst (v := (1 : Int32)) hx hb dX8_note_107 (by decide) ?_
    refine lv_iadd hx hb dX8_note_108 ?_
    refine va_put (D := D) (ci := 8) (v := .int ((s6.1 14) + (1 : Int32))) (ty := .int) (C := RX8) (T := TX8) (N := 27) hx hb hts hinX8 tyX8 tyX8_ok nmX8 hown hK.1 hP hD hS 0 rfl rfl 14 (by decide) lkf134 (fun _ h9 => h9) rfl (by decide +kernel) rfl rfl (Nat.le_of_ble_eq_true rfl) dX8_note_109 (fun H locs hP hD hS => ?_)
    have hP : va_P D vwCl (wX8 cA a0 (sF s6 14 ((s6.1 14) + (1 : Int32)))) H := hP
    have hD : va_D A (wX8 cA a0 (sF s6 14 ((s6.1 14) + (1 : Int32)))) := hD
    obtain ⟨s7, es7⟩ : ∃ z, z = sF s6 14 ((s6.1 14) + (1 : Int32)) := ⟨_, rfl⟩
    rw [← es7] at hP hD
    have h := nm_ap es7 h
    cases h
    exact hend _ _ _ _ hP hD hS dX8_note_112
  refine lv_aload_n hx hb dX8_note_0 rfl (lv_at hl 0 rfl) ?_
  refine va_get (D := D) (ci := 8) (v := .int (o0.1 14)) (C := RX8) (T := TX8) (N := 27) hx hb hts hinX8 hown hK.1 hP 0 rfl rfl 14 (by decide) lkf134 (fun _ h9 => h9) rfl dX8_note_1 ?_
  refine lv_bipush (v := (8 : Int32)) hx hb dX8_note_4 (by decide) ?_
  refine lv_icmp_ne (tgt := 47) hx hb dX8_note_6 (by decide) (fun hc => ?_) (fun hc => ?_)
  · have h := if_f hc h
    exact JP0_47 o0 _ _ hP hD hS ls (lv_sub hl [0] rfl) h
  · have h := if_t hc h
    refine lv_iconst (v := (0 : Int32)) hx hb dX8_note_9 (by decide) ?_
    refine lv_istore_n (lv' := [(1, .int (0 : Int32)), (0, .ref (a0 0))]) hx hb dX8_note_10 rfl hl (by decide) rfl (fun ls hl => ?_)
    obtain ⟨z1, hz1, h⟩ := bd_some h
    refine LP11 512 (0 : Int32) o0 _ _ hP hD hS ls (lv_sub hl [1, 0] rfl) _ hz1 ?_
    · intro H locs hP hD hS ls hl
      refine lv_aload_n hx hb dX8_note_37 rfl (lv_at hl 0 rfl) ?_
      refine lv_dup hx hb dX8_note_38 rfl ?_
      refine va_get (D := D) (ci := 8) (v := .int (z1.1 14)) (C := RX8) (T := TX8) (N := 27) hx hb hts hinX8 hown hK.1 hP 0 rfl rfl 14 (by decide) lkf134 (fun _ h9 => h9) rfl dX8_note_39 ?_
      refine lv_iconst (v := (1 : Int32)) hx hb dX8_note_42 (by decide) ?_
      refine lv_isub hx hb dX8_note_43 ?_
      refine va_put (D := D) (ci := 8) (v := .int ((z1.1 14) - (1 : Int32))) (ty := .int) (C := RX8) (T := TX8) (N := 27) hx hb hts hinX8 tyX8 tyX8_ok nmX8 hown hK.1 hP hD hS 0 rfl rfl 14 (by decide) lkf134 (fun _ h9 => h9) rfl (by decide +kernel) rfl rfl (Nat.le_of_ble_eq_true rfl) dX8_note_44 (fun H locs hP hD hS => ?_)
      have hP : va_P D vwCl (wX8 cA a0 (sF z1 14 ((z1.1 14) - (1 : Int32)))) H := hP
      have hD : va_D A (wX8 cA a0 (sF z1 14 ((z1.1 14) - (1 : Int32)))) := hD
      obtain ⟨s2, es2⟩ : ∃ z, z = sF z1 14 ((z1.1 14) - (1 : Int32)) := ⟨_, rfl⟩
      rw [← es2] at hP hD
      have h := nm_ap es2 h
      exact JP0_47 s2 _ _ hP hD hS ls (lv_sub hl [0] rfl) h
abbrev rmX8_takeOut : Room := ({ frames := 1, cells := 0, slots := 0, locals := 22 } : Room)
set_option maxHeartbeats 4000000 in
set_option maxRecDepth 100000 in
theorem c_X8_takeOut (l : Launch) (D : va_G) (cA : ClassId) (a0 : (Nat → Nat)) (o0 : Ob) (x1 : Int32) (r : Int32) (o0_ : Ob) (h : f_X8_takeOut o0 x1 = some (r, o0_)) : ConW l yX8_takeOut wsX8_takeOut rmX8_takeOut D cA [.ref (a0 0), .int x1] (wX8 cA a0 o0) r (wX8 cA a0 o0_) := by
  refine ConW.enter (cc := cX8_takeOut) (maxL := 2) (by decide) rfl (Nat.le_of_ble_eq_true rfl) ?_
  intro p e s m args below meth c Q A hx hb hml hown hts hK hP hD hA hend ls hl
  have hS : va_S A s.heap s.heap [] := va_S.rf
  have hl : lv_has ls 2 [(0, .ref (a0 0)), (1, .int x1)] := hl
  unfold f_X8_takeOut at h
  have lkf40 := hts (.fieldLink RX8 40 "TiedToTownModel" "tied" "[I") (List.mem_of_getElem? (i := 1) rfl)
  have hinX8 : ∀ w ∈ wsX80, w ∈ wsX8_takeOut := fun w h => List.mem_cons_of_mem _ (List.mem_append_right _ h)
  refine lv_aload_n hx hb dX8_takeOut_0 rfl (lv_at hl 0 rfl) ?_
  obtain ⟨z1, hz1, h⟩ := bd_some h
  refine cV_V (As := []) (rest := []) (wn := (wX8 cA a0 z1)) ⟨hx, hb, hml, hown, hts⟩ (c_X8_note l D cA a0 o0   z1 hz1) (cwV 0 hts gX8_takeOut_X8_note rfl rfl rfl hd_X8_note ⟨(Nat.le_of_ble_eq_true rfl), (Nat.le_of_ble_eq_true rfl)⟩) (recvK hK hP 0 8 rfl rfl) hK hP hD hS hA [0, 1, 2, 3, 4, 5, 6, 7, 8, 9, 10, 11, 12, 13, 14, 15, 16, 17, 18, 19, 20, 21, 22] [] [0, 1, 2, 3, 4, 5, 6, 7, 8, 9, 10, 11, 12, 13, 14, 15, 16, 17, 18, 19, 20, 21, 22] rfl rfl rfl rfl rfl rfl rfl rfl hl.1 rfl (Nat.le_of_ble_eq_true rfl) dX8_takeOut_1 ⟨(Nat.le_of_ble_eq_true rfl), (Nat.le_of_ble_eq_true rfl)⟩ (fun H locs hP hD hS => ?_)
  refine lv_aload_n hx hb dX8_takeOut_4 rfl (lv_at hl 0 rfl) ?_
  refine va_get (D := D) (ci := 8) (v := .ref (a0 12)) (C := RX8) (T := TX8) (N := 27) hx hb hts hinX8 hown hK.1 hP 0 rfl rfl 11 (by decide) lkf40 (fun _ h9 => h9) rfl dX8_takeOut_5 ?_
  refine lv_iconst (v := (0 : Int32)) hx hb dX8_takeOut_8 (by decide) ?_
  refine lv_dup2_11 hx hb dX8_takeOut_9 rfl rfl ?_
  refine iald (q0 := 0) (t0 := 0) (j := 0) hx hb hK hP 11 rfl rfl (vp_in_iff.mpr (by decide)) dX8_takeOut_10 ?_
  refine lv_iload_n hx hb dX8_takeOut_11 rfl (lv_at hl 1 rfl) ?_
  refine lv_iconst (v := (-1 : Int32)) hx hb dX8_takeOut_12 (by decide) ?_
  refine lv_ixor hx hb dX8_takeOut_13 ?_
  refine lv_iand hx hb dX8_takeOut_14 ?_
  refine iast (j := 0) (wn := (wX8 cA a0 (sA z1 11 0 ((z1.2 11 0) &&& (x1 ^^^ (-1 : Int32)))))) hx hb hK hP hD hS 11 rfl rfl (vp_in_iff.mpr (by decide)) dX8_takeOut_15 rfl (fun H locs hP hD hS => ?_)
  obtain ⟨s2, es2⟩ : ∃ z, z = sA z1 11 0 ((z1.2 11 0) &&& (x1 ^^^ (-1 : Int32))) := ⟨_, rfl⟩
  rw [← es2] at hP hD
  have h := nm_ap es2 h
  refine lv_iload_n hx hb dX8_takeOut_16 rfl (lv_at hl 1 rfl) ?_
  obtain ⟨z3, hz3, h⟩ := bd_some h
  refine cR_S (As := [.int x1]) (rest := []) ⟨hx, hb, hml, hown, hts⟩ (c_X8_bits l D cA  x1 z3 hz3) (va_cwS 1 hts gX8_takeOut_X8_bits rfl rfl rfl hd_X8_bits.2 ⟨(Nat.le_of_ble_eq_true rfl), (Nat.le_of_ble_eq_true rfl)⟩) hK hP [] rfl rfl hl.1 rfl (Nat.le_of_ble_eq_true rfl) dX8_takeOut_17 ⟨(Nat.le_of_ble_eq_true rfl), (Nat.le_of_ble_eq_true rfl)⟩ ?_
  cases h
  exact hend _ _ _ _ hP hD hS dX8_takeOut_20
abbrev rmX8_undo : Room := ({ frames := 3, cells := 0, slots := 0, locals := 72 } : Room)
set_option maxHeartbeats 4000000 in
set_option maxRecDepth 100000 in
theorem c_X8_undo (l : Launch) (D : va_G) (cA : ClassId) (a0 : (Nat → Nat)) (o0 : Ob) (x1 : Int32) (r : Int32) (o0_ : Ob) (h : f_X8_undo o0 x1 = some (r, o0_)) : ConW l yX8_undo wsX8_undo rmX8_undo D cA [.ref (a0 0), .int x1] (wX8 cA a0 o0) r (wX8 cA a0 o0_) := by
  refine ConW.enter (cc := cX8_undo) (maxL := 2) (by decide) rfl (Nat.le_of_ble_eq_true rfl) ?_
  intro p e s m args below meth c Q A hx hb hml hown hts hK hP hD hA hend ls hl
  have hS : va_S A s.heap s.heap [] := va_S.rf
  have hl : lv_has ls 2 [(0, .ref (a0 0)), (1, .int x1)] := hl
  unfold f_X8_undo at h
  have lkf40 := hts (.fieldLink RX8 40 "TiedToTownModel" "tied" "[I") (List.mem_of_getElem? (i := 1) rfl)
  have hinX8 : ∀ w ∈ wsX80, w ∈ wsX8_undo := fun w h => List.mem_cons_of_mem _ (List.mem_append_right _ h)
  have lkf16 := hts (.fieldLink RX8 16 "TiedToTownModel" "alive" "[I") (List.mem_of_getElem? (i := 2) rfl)
  have lkf43 := hts (.fieldLink RX8 43 "TiedToTownModel" "day" "[I") (List.mem_of_getElem? (i := 3) rfl)
  refine lv_aload_n hx hb dX8_undo_0 rfl (lv_at hl 0 rfl) ?_
  refine lv_iload_n hx hb dX8_undo_1 rfl (lv_at hl 1 rfl) ?_
  obtain ⟨z1, hz1, h⟩ := bd_some h
  refine cR_V (As := [.int x1]) (rest := []) ⟨hx, hb, hml, hown, hts⟩ (c_X8_isThere l D cA a0 o0 x1 z1 hz1) (cwV 1 hts gX8_undo_X8_isThere rfl rfl rfl hd_X8_isThere ⟨(Nat.le_of_ble_eq_true rfl), (Nat.le_of_ble_eq_true rfl)⟩) (recvK hK hP 0 8 rfl rfl) hK hP [0, 1, 2, 3, 4, 5, 6, 7, 8, 9, 10, 11, 12, 13, 14, 15, 16, 17, 18, 19, 20, 21, 22] rfl rfl hl.1 rfl (Nat.le_of_ble_eq_true rfl) dX8_undo_2 ⟨(Nat.le_of_ble_eq_true rfl), (Nat.le_of_ble_eq_true rfl)⟩ ?_
  refine lv_if_ne (tgt := 10) hx hb dX8_undo_5 (by decide) (fun hc => ?_) (fun hc => ?_)
  · have h := if_f hc h
    refine lv_aload_n hx hb dX8_undo_10 rfl (lv_at hl 0 rfl) ?_
    refine lv_iload_n hx hb dX8_undo_11 rfl (lv_at hl 1 rfl) ?_
    refine lv_aload_n hx hb dX8_undo_12 rfl (lv_at hl 0 rfl) ?_
    refine va_get (D := D) (ci := 8) (v := .ref (a0 12)) (C := RX8) (T := TX8) (N := 27) hx hb hts hinX8 hown hK.1 hP 0 rfl rfl 11 (by decide) lkf40 (fun _ h9 => h9) rfl dX8_undo_13 ?_
    refine lv_iconst (v := (0 : Int32)) hx hb dX8_undo_16 (by decide) ?_
    refine iald (q0 := 0) (t0 := 0) (j := 0) hx hb hK hP 11 rfl rfl (vp_in_iff.mpr (by decide)) dX8_undo_17 ?_
    refine lv_aload_n hx hb dX8_undo_18 rfl (lv_at hl 0 rfl) ?_
    refine va_get (D := D) (ci := 8) (v := .ref (a0 4)) (C := RX8) (T := TX8) (N := 27) hx hb hts hinX8 hown hK.1 hP 0 rfl rfl 3 (by decide) lkf16 (fun _ h9 => h9) rfl dX8_undo_19 ?_
    refine lv_iconst (v := (0 : Int32)) hx hb dX8_undo_22 (by decide) ?_
    refine iald (q0 := 0) (t0 := 0) (j := 0) hx hb hK hP 3 rfl rfl (vp_in_iff.mpr (by decide)) dX8_undo_23 ?_
    refine lv_aload_n hx hb dX8_undo_24 rfl (lv_at hl 0 rfl) ?_
    refine va_get (D := D) (ci := 8) (v := .ref (a0 13)) (C := RX8) (T := TX8) (N := 27) hx hb hts hinX8 hown hK.1 hP 0 rfl rfl 12 (by decide) lkf43 (fun _ h9 => h9) rfl dX8_undo_25 ?_
    refine lv_iconst (v := (0 : Int32)) hx hb dX8_undo_28 (by decide) ?_
    refine iald (q0 := 0) (t0 := 0) (j := 0) hx hb hK hP 12 rfl rfl (vp_in_iff.mpr (by decide)) dX8_undo_29 ?_
    obtain ⟨z2, hz2, h⟩ := bd_some h
    refine cR_V (As := [.int x1, .int (o0.2 11 0), .int (o0.2 3 0), .int (o0.2 12 0)]) (rest := []) ⟨hx, hb, hml, hown, hts⟩ (c_X8_mayBe l D cA a0 o0 x1 (o0.2 11 0) (o0.2 3 0) (o0.2 12 0) z2 hz2) (cwV 4 hts gX8_undo_X8_mayBe rfl rfl rfl hd_X8_mayBe ⟨(Nat.le_of_ble_eq_true rfl), (Nat.le_of_ble_eq_true rfl)⟩) (recvK hK hP 0 8 rfl rfl) hK hP [0, 1, 2, 3, 4, 5, 6, 7, 8, 9, 10, 11, 12, 13, 14, 15, 16, 17, 18, 19, 20, 21, 22] rfl rfl hl.1 rfl (Nat.le_of_ble_eq_true rfl) dX8_undo_30 ⟨(Nat.le_of_ble_eq_true rfl), (Nat.le_of_ble_eq_true rfl)⟩ ?_
    refine lv_if_ne (tgt := 39) hx hb dX8_undo_33 (by decide) (fun hc => ?_) (fun hc => ?_)
    · have h := if_f hc h
      refine lv_aload_n hx hb dX8_undo_39 rfl (lv_at hl 0 rfl) ?_
      refine lv_iconst (v := (1 : Int32)) hx hb dX8_undo_40 (by decide) ?_
      refine lv_iload_n hx hb dX8_undo_41 rfl (lv_at hl 1 rfl) ?_
      refine lv_ishl hx hb dX8_undo_42 ?_
      obtain ⟨z3, hz3, h⟩ := bd_some h
      refine cW_V (As := [.int ((1 : Int32) <<< (x1 &&& 31))]) (rest := []) (wn := (wX8 cA a0 z3.2)) ⟨hx, hb, hml, hown, hts⟩ (c_X8_takeOut l D cA a0 o0 ((1 : Int32) <<< (x1 &&& 31)) z3.1 z3.2 hz3) (cwV 1 hts gX8_undo_X8_takeOut rfl rfl rfl hd_X8_takeOut ⟨(Nat.le_of_ble_eq_true rfl), (Nat.le_of_ble_eq_true rfl)⟩) (recvK hK hP 0 8 rfl rfl) hK hP hD hS hA [0, 1, 2, 3, 4, 5, 6, 7, 8, 9, 10, 11, 12, 13, 14, 15, 16, 17, 18, 19, 20, 21, 22] [] [0, 1, 2, 3, 4, 5, 6, 7, 8, 9, 10, 11, 12, 13, 14, 15, 16, 17, 18, 19, 20, 21, 22] rfl rfl rfl rfl rfl rfl rfl rfl hl.1 rfl (Nat.le_of_ble_eq_true rfl) dX8_undo_43 ⟨(Nat.le_of_ble_eq_true rfl), (Nat.le_of_ble_eq_true rfl)⟩ (fun H locs hP hD hS => ?_)
      refine lv_pop hx hb dX8_undo_46 rfl ?_
      refine lv_aload_n hx hb dX8_undo_47 rfl (lv_at hl 0 rfl) ?_
      refine va_get (D := D) (ci := 8) (v := .ref (a0 12)) (C := RX8) (T := TX8) (N := 27) hx hb hts hinX8 hown hK.1 hP 0 rfl rfl 11 (by decide) lkf40 (fun _ h9 => h9) rfl dX8_undo_48 ?_
      refine lv_iconst (v := (0 : Int32)) hx hb dX8_undo_51 (by decide) ?_
      refine iald (q0 := 0) (t0 := 0) (j := 0) hx hb hK hP 11 rfl rfl (vp_in_iff.mpr (by decide)) dX8_undo_52 ?_
      obtain ⟨z4, hz4, h⟩ := bd_some h
      refine cR_S (As := [.int (z3.2.2 11 0)]) (rest := []) ⟨hx, hb, hml, hown, hts⟩ (c_X8_bits l D cA  (z3.2.2 11 0) z4 hz4) (va_cwS 1 hts gX8_undo_X8_bits rfl rfl rfl hd_X8_bits.2 ⟨(Nat.le_of_ble_eq_true rfl), (Nat.le_of_ble_eq_true rfl)⟩) hK hP [] rfl rfl hl.1 rfl (Nat.le_of_ble_eq_true rfl) dX8_undo_53 ⟨(Nat.le_of_ble_eq_true rfl), (Nat.le_of_ble_eq_true rfl)⟩ ?_
      cases h
      exact hend _ _ _ _ hP hD hS dX8_undo_56
    · have h := if_t hc h
      refine lv_bipush (v := (-2 : Int32)) hx hb dX8_undo_36 (by decide) ?_
      cases h
      exact hend _ _ _ _ hP hD hS dX8_undo_38
  · have h := if_t hc h
    refine lv_iconst (v := (-1 : Int32)) hx hb dX8_undo_8 (by decide) ?_
    cases h
    exact hend _ _ _ _ hP hD hS dX8_undo_9
abbrev rmX8_tie : Room := ({ frames := 2, cells := 0, slots := 0, locals := 51 } : Room)
set_option maxHeartbeats 4000000 in
set_option maxRecDepth 100000 in
theorem c_X8_tie (l : Launch) (D : va_G) (cA : ClassId) (a0 : (Nat → Nat)) (o0 : Ob) (x1 : Int32) (x2 : Int32) (x3 : Int32) (x4 : Int32) (x5 : Int32) (r : Int32) (o0_ : Ob) (h : f_X8_tie o0 x1 x2 x3 x4 x5 = some (r, o0_)) : ConW l yX8_tie wsX8_tie rmX8_tie D cA [.ref (a0 0), .int x1, .int x2, .int x3, .int x4, .int x5] (wX8 cA a0 o0) r (wX8 cA a0 o0_) := by
  refine ConW.enter (cc := cX8_tie) (maxL := 6) (by decide) rfl (Nat.le_of_ble_eq_true rfl) ?_
  intro p e s m args below meth c Q A hx hb hml hown hts hK hP hD hA hend ls hl
  have hS : va_S A s.heap s.heap [] := va_S.rf
  have hl : lv_has ls 6 [(0, .ref (a0 0)), (1, .int x1), (2, .int x2), (3, .int x3), (4, .int x4), (5, .int x5)] := hl
  unfold f_X8_tie at h
  have lkf16 := hts (.fieldLink RX8 16 "TiedToTownModel" "alive" "[I") (List.mem_of_getElem? (i := 1) rfl)
  have hinX8 : ∀ w ∈ wsX80, w ∈ wsX8_tie := fun w h => List.mem_cons_of_mem _ (List.mem_append_right _ h)
  have lkf40 := hts (.fieldLink RX8 40 "TiedToTownModel" "tied" "[I") (List.mem_of_getElem? (i := 2) rfl)
  have lkf22 := hts (.fieldLink RX8 22 "TiedToTownModel" "many" "[I") (List.mem_of_getElem? (i := 3) rfl)
  have lkf137 := hts (.fieldLink RX8 137 "TiedToTownModel" "rowMany" "I") (List.mem_of_getElem? (i := 4) rfl)
  refine lv_aload_n hx hb dX8_tie_0 rfl (lv_at hl 0 rfl) ?_
  refine lv_iconst (v := (0 : Int32)) hx hb dX8_tie_1 (by decide) ?_
  refine lv_iload_n hx hb dX8_tie_2 rfl (lv_at hl 1 rfl) ?_
  refine lv_iload_n hx hb dX8_tie_3 rfl (lv_at hl 2 rfl) ?_
  refine lv_iload_n hx hb dX8_tie_4 rfl (lv_at hl 3 rfl) ?_
  refine lv_iload hx hb dX8_tie_5 (lv_at hl 4 rfl) ?_
  refine lv_iload hx hb dX8_tie_7 (lv_at hl 5 rfl) ?_
  obtain ⟨z1, hz1, h⟩ := bd_some h
  refine cR_V (As := [.int (0 : Int32), .int x1, .int x2, .int x3, .int x4, .int x5]) (rest := []) ⟨hx, hb, hml, hown, hts⟩ (c_X8_isKnot l D cA a0 o0 (0 : Int32) x1 x2 x3 x4 x5 z1 hz1) (cwV 6 hts gX8_tie_X8_isKnot rfl rfl rfl hd_X8_isKnot ⟨(Nat.le_of_ble_eq_true rfl), (Nat.le_of_ble_eq_true rfl)⟩) (recvK hK hP 0 8 rfl rfl) hK hP [0, 1, 2, 3, 4, 5, 6, 7, 8, 9, 10, 11, 12, 13, 14, 15, 16, 17, 18, 19, 20, 21, 22] rfl rfl hl.1 rfl (Nat.le_of_ble_eq_true rfl) dX8_tie_9 ⟨(Nat.le_of_ble_eq_true rfl), (Nat.le_of_ble_eq_true rfl)⟩ ?_
  refine lv_if_ne (tgt := 17) hx hb dX8_tie_12 (by decide) (fun hc => ?_) (fun hc => ?_)
  · have h := if_f hc h
    refine lv_aload_n hx hb dX8_tie_17 rfl (lv_at hl 0 rfl) ?_
    refine va_get (D := D) (ci := 8) (v := .ref (a0 4)) (C := RX8) (T := TX8) (N := 27) hx hb hts hinX8 hown hK.1 hP 0 rfl rfl 3 (by decide) lkf16 (fun _ h9 => h9) rfl dX8_tie_18 ?_
    refine lv_iconst (v := (0 : Int32)) hx hb dX8_tie_21 (by decide) ?_
    refine iald (q0 := 0) (t0 := 0) (j := 0) hx hb hK hP 3 rfl rfl (vp_in_iff.mpr (by decide)) dX8_tie_22 ?_
    refine lv_iload_n hx hb dX8_tie_23 rfl (lv_at hl 1 rfl) ?_
    obtain ⟨z2, hz2, h⟩ := bd_some h
    refine cR_S (As := [.int (o0.2 3 0), .int x1]) (rest := []) ⟨hx, hb, hml, hown, hts⟩ (c_X8_has l D cA  (o0.2 3 0) x1 z2 hz2) (va_cwS 2 hts gX8_tie_X8_has rfl rfl rfl hd_X8_has.2 ⟨(Nat.le_of_ble_eq_true rfl), (Nat.le_of_ble_eq_true rfl)⟩) hK hP [] rfl rfl hl.1 rfl (Nat.le_of_ble_eq_true rfl) dX8_tie_24 ⟨(Nat.le_of_ble_eq_true rfl), (Nat.le_of_ble_eq_true rfl)⟩ ?_
    refine lv_if_eq (tgt := 56) hx hb dX8_tie_27 (by decide) (fun hc => ?_) (fun hc => ?_)
    · have h := if_t hc h
      refine lv_bipush (v := (-2 : Int32)) hx hb dX8_tie_56 (by decide) ?_
      cases h
      exact hend _ _ _ _ hP hD hS dX8_tie_58
    · have h := if_f hc h
      refine lv_aload_n hx hb dX8_tie_30 rfl (lv_at hl 0 rfl) ?_
      refine va_get (D := D) (ci := 8) (v := .ref (a0 4)) (C := RX8) (T := TX8) (N := 27) hx hb hts hinX8 hown hK.1 hP 0 rfl rfl 3 (by decide) lkf16 (fun _ h9 => h9) rfl dX8_tie_31 ?_
      refine lv_iconst (v := (0 : Int32)) hx hb dX8_tie_34 (by decide) ?_
      refine iald (q0 := 0) (t0 := 0) (j := 0) hx hb hK hP 3 rfl rfl (vp_in_iff.mpr (by decide)) dX8_tie_35 ?_
      refine lv_iload_n hx hb dX8_tie_36 rfl (lv_at hl 2 rfl) ?_
      obtain ⟨z3, hz3, h⟩ := bd_some h
      refine cR_S (As := [.int (o0.2 3 0), .int x2]) (rest := []) ⟨hx, hb, hml, hown, hts⟩ (c_X8_has l D cA  (o0.2 3 0) x2 z3 hz3) (va_cwS 2 hts gX8_tie_X8_has rfl rfl rfl hd_X8_has.2 ⟨(Nat.le_of_ble_eq_true rfl), (Nat.le_of_ble_eq_true rfl)⟩) hK hP [] rfl rfl hl.1 rfl (Nat.le_of_ble_eq_true rfl) dX8_tie_37 ⟨(Nat.le_of_ble_eq_true rfl), (Nat.le_of_ble_eq_true rfl)⟩ ?_
      refine lv_if_eq (tgt := 56) hx hb dX8_tie_40 (by decide) (fun hc => ?_) (fun hc => ?_)
      · have h := if_t hc h
        refine lv_bipush (v := (-2 : Int32)) hx hb dX8_tie_56 (by decide) ?_
        cases h
        exact hend _ _ _ _ hP hD hS dX8_tie_58
      · have h := if_f hc h
        refine lv_iload_n hx hb dX8_tie_43 rfl (lv_at hl 3 rfl) ?_
        refine lv_aload_n hx hb dX8_tie_44 rfl (lv_at hl 0 rfl) ?_
        refine va_get (D := D) (ci := 8) (v := .ref (a0 12)) (C := RX8) (T := TX8) (N := 27) hx hb hts hinX8 hown hK.1 hP 0 rfl rfl 11 (by decide) lkf40 (fun _ h9 => h9) rfl dX8_tie_45 ?_
        refine lv_iconst (v := (0 : Int32)) hx hb dX8_tie_48 (by decide) ?_
        refine iald (q0 := 0) (t0 := 0) (j := 0) hx hb hK hP 11 rfl rfl (vp_in_iff.mpr (by decide)) dX8_tie_49 ?_
        refine lv_iconst (v := (-1 : Int32)) hx hb dX8_tie_50 (by decide) ?_
        refine lv_ixor hx hb dX8_tie_51 ?_
        refine lv_iand hx hb dX8_tie_52 ?_
        refine lv_if_eq (tgt := 59) hx hb dX8_tie_53 (by decide) (fun hc => ?_) (fun hc => ?_)
        · have h := if_t hc h
          refine lv_aload_n hx hb dX8_tie_59 rfl (lv_at hl 0 rfl) ?_
          refine va_get (D := D) (ci := 8) (v := .ref (a0 6)) (C := RX8) (T := TX8) (N := 27) hx hb hts hinX8 hown hK.1 hP 0 rfl rfl 5 (by decide) lkf22 (fun _ h9 => h9) rfl dX8_tie_60 ?_
          refine lv_iconst (v := (0 : Int32)) hx hb dX8_tie_63 (by decide) ?_
          refine iald (q0 := 0) (t0 := 0) (j := 0) hx hb hK hP 5 rfl rfl (vp_in_iff.mpr (by decide)) dX8_tie_64 ?_
          refine lv_bipush (v := (8 : Int32)) hx hb dX8_tie_65 (by decide) ?_
          refine lv_icmp_ne (tgt := 73) hx hb dX8_tie_67 (by decide) (fun hc => ?_) (fun hc => ?_)
          · have h := if_f hc h
            refine lv_aload_n hx hb dX8_tie_73 rfl (lv_at hl 0 rfl) ?_
            obtain ⟨z4, hz4, h⟩ := bd_some h
            refine cV_V (As := []) (rest := []) (wn := (wX8 cA a0 z4)) ⟨hx, hb, hml, hown, hts⟩ (c_X8_note l D cA a0 o0   z4 hz4) (cwV 0 hts gX8_tie_X8_note rfl rfl rfl hd_X8_note ⟨(Nat.le_of_ble_eq_true rfl), (Nat.le_of_ble_eq_true rfl)⟩) (recvK hK hP 0 8 rfl rfl) hK hP hD hS hA [0, 1, 2, 3, 4, 5, 6, 7, 8, 9, 10, 11, 12, 13, 14, 15, 16, 17, 18, 19, 20, 21, 22] [] [0, 1, 2, 3, 4, 5, 6, 7, 8, 9, 10, 11, 12, 13, 14, 15, 16, 17, 18, 19, 20, 21, 22] rfl rfl rfl rfl rfl rfl rfl rfl hl.1 rfl (Nat.le_of_ble_eq_true rfl) dX8_tie_74 ⟨(Nat.le_of_ble_eq_true rfl), (Nat.le_of_ble_eq_true rfl)⟩ (fun H locs hP hD hS => ?_)
            refine lv_aload_n hx hb dX8_tie_77 rfl (lv_at hl 0 rfl) ?_
            refine lv_iconst (v := (0 : Int32)) hx hb dX8_tie_78 (by decide) ?_
            refine lv_iload_n hx hb dX8_tie_79 rfl (lv_at hl 1 rfl) ?_
            refine lv_iload_n hx hb dX8_tie_80 rfl (lv_at hl 2 rfl) ?_
            refine lv_iload_n hx hb dX8_tie_81 rfl (lv_at hl 3 rfl) ?_
            refine lv_iload hx hb dX8_tie_82 (lv_at hl 4 rfl) ?_
            refine lv_iload hx hb dX8_tie_84 (lv_at hl 5 rfl) ?_
            obtain ⟨z5, hz5, h⟩ := bd_some h
            refine cV_V (As := [.int (0 : Int32), .int x1, .int x2, .int x3, .int x4, .int x5]) (rest := []) (wn := (wX8 cA a0 z5)) ⟨hx, hb, hml, hown, hts⟩ (c_X8_addKnot l D cA a0 z4 (0 : Int32) x1 x2 x3 x4 x5  z5 hz5) (cwV 6 hts gX8_tie_X8_addKnot rfl rfl rfl hd_X8_addKnot ⟨(Nat.le_of_ble_eq_true rfl), (Nat.le_of_ble_eq_true rfl)⟩) (recvK hK hP 0 8 rfl rfl) hK hP hD hS hA [0, 1, 2, 3, 4, 5, 6, 7, 8, 9, 10, 11, 12, 13, 14, 15, 16, 17, 18, 19, 20, 21, 22] [] [0, 1, 2, 3, 4, 5, 6, 7, 8, 9, 10, 11, 12, 13, 14, 15, 16, 17, 18, 19, 20, 21, 22] rfl rfl rfl rfl rfl rfl rfl rfl hl.1 rfl (Nat.le_of_ble_eq_true rfl) dX8_tie_86 ⟨(Nat.le_of_ble_eq_true rfl), (Nat.le_of_ble_eq_true rfl)⟩ (fun H locs hP hD hS => ?_)
            refine lv_aload_n hx hb dX8_tie_89 rfl (lv_at hl 0 rfl) ?_
            refine lv_iconst (v := (0 : Int32)) hx hb dX8_tie_90 (by decide) ?_
            refine va_put (D := D) (ci := 8) (v := .int (0 : Int32)) (ty := .int) (C := RX8) (T := TX8) (N := 27) hx hb hts hinX8 tyX8 tyX8_ok nmX8 hown hK.1 hP hD hS 0 rfl rfl 16 (by decide) lkf137 (fun _ h9 => h9) rfl (by decide +kernel) rfl rfl (Nat.le_of_ble_eq_true rfl) dX8_tie_91 (fun H locs hP hD hS => ?_)
            have hP : va_P D vwCl (wX8 cA a0 (sF z5 16 (0 : Int32))) H := hP
            have hD : va_D A (wX8 cA a0 (sF z5 16 (0 : Int32))) := hD
            obtain ⟨s6, es6⟩ : ∃ z, z = sF z5 16 (0 : Int32) := ⟨_, rfl⟩
            rw [← es6] at hP hD
            have h := nm_ap es6 h
            refine lv_aload_n hx hb dX8_tie_94 rfl (lv_at hl 0 rfl) ?_
            refine va_get (D := D) (ci := 8) (v := .ref (a0 6)) (C := RX8) (T := TX8) (N := 27) hx hb hts hinX8 hown hK.1 hP 0 rfl rfl 5 (by decide) lkf22 (fun _ h9 => h9) rfl dX8_tie_95 ?_
            refine lv_iconst (v := (0 : Int32)) hx hb dX8_tie_98 (by decide) ?_
            refine iald (q0 := 0) (t0 := 0) (j := 0) hx hb hK hP 5 rfl rfl (vp_in_iff.mpr (by decide)) dX8_tie_99 ?_
            refine lv_iconst (v := (1 : Int32)) hx hb dX8_tie_100 (by decide) ?_
            refine lv_isub hx hb dX8_tie_101 ?_
            cases h
            exact hend _ _ _ _ hP hD hS dX8_tie_102
          · have h := if_t hc h
            refine lv_bipush (v := (-3 : Int32)) hx hb dX8_tie_70 (by decide) ?_
            cases h
            exact hend _ _ _ _ hP hD hS dX8_tie_72
        · have h := if_f hc h
          refine lv_bipush (v := (-2 : Int32)) hx hb dX8_tie_56 (by decide) ?_
          cases h
          exact hend _ _ _ _ hP hD hS dX8_tie_58
  · have h := if_t hc h
    refine lv_iconst (v := (-1 : Int32)) hx hb dX8_tie_15 (by decide) ?_
    cases h
    exact hend _ _ _ _ hP hD hS dX8_tie_16
abbrev rmX8_pull : Room := ({ frames := 2, cells := 0, slots := 0, locals := 46 } : Room)
set_option maxHeartbeats 4000000 in
set_option maxRecDepth 100000 in
theorem c_X8_pull (l : Launch) (D : va_G) (cA : ClassId) (a0 : (Nat → Nat)) (o0 : Ob) (x1 : Int32) (r : Int32) (o0_ : Ob) (h : f_X8_pull o0 x1 = some (r, o0_)) : ConW l yX8_pull wsX8_pull rmX8_pull D cA [.ref (a0 0), .int x1] (wX8 cA a0 o0) r (wX8 cA a0 o0_) := by
  refine ConW.enter (cc := cX8_pull) (maxL := 5) (by decide) rfl (Nat.le_of_ble_eq_true rfl) ?_
  intro p e s m args below meth c Q A hx hb hml hown hts hK hP hD hA hend ls hl
  have hS : va_S A s.heap s.heap [] := va_S.rf
  have hl : lv_has ls 5 [(0, .ref (a0 0)), (1, .int x1)] := hl
  unfold f_X8_pull at h
  have lkf40 := hts (.fieldLink RX8 40 "TiedToTownModel" "tied" "[I") (List.mem_of_getElem? (i := 1) rfl)
  have hinX8 : ∀ w ∈ wsX80, w ∈ wsX8_pull := fun w h => List.mem_cons_of_mem _ (List.mem_append_right _ h)
  have lkf22 := hts (.fieldLink RX8 22 "TiedToTownModel" "many" "[I") (List.mem_of_getElem? (i := 2) rfl)
  have lkf37 := hts (.fieldLink RX8 37 "TiedToTownModel" "kinds" "[I") (List.mem_of_getElem? (i := 3) rfl)
  have LP40 : ∀ (x2 : Int32) (o0 : Ob) (n : Nat) (x3 : Int32) (x4 : Int32) (H : Heap) (locs : List Loc) (_ : va_P D vwCl (wX8 cA a0 o0) H) (_ : va_D A (wX8 cA a0 o0)) (_ : va_S A s.heap H locs) (ls : Array Slot) (_ : lv_has ls 5 [(0, .ref (a0 0)), (2, .int x2), (3, .int x3), (4, .int x4)]) (res : Int32) (_ : L_X8_pull_40 x2 o0 n x3 x4 = some res) (_ : (∀ (H : Heap) (locs : List Loc) (_ : va_P D vwCl (wX8 cA a0 o0) H) (_ : va_D A (wX8 cA a0 o0)) (_ : va_S A s.heap H locs) (ls : Array Slot), lv_has ls 5 [(0, .ref (a0 0)), (2, .int x2), (3, .int res)] → W p l e rmX8_pull s m args below meth c H locs 0 0 Q (F0 m 87 ls []))), W p l e rmX8_pull s m args below meth c H locs 0 0 Q (F0 m 40 ls []) := by
    intro x2 o0 n
    induction n with
    | zero =>
      intro x3 x4 H locs hP hD hS ls hl res h K0
      exact absurd h (fun q : (none : Option (Int32)) = some res => by cases q)
    | succ n ih =>
      intro x3 x4 H locs hP hD hS ls hl res h K0
      have h : L_X8_pull_40_step x2 o0 (L_X8_pull_40 x2 o0 n) x3 x4 = some res := h
      unfold L_X8_pull_40_step at h
      refine lv_iload hx hb dX8_pull_40 (lv_at hl 3 rfl) ?_
      refine lv_aload_n hx hb dX8_pull_42 rfl (lv_at hl 0 rfl) ?_
      refine va_get (D := D) (ci := 8) (v := .ref (a0 6)) (C := RX8) (T := TX8) (N := 27) hx hb hts hinX8 hown hK.1 hP 0 rfl rfl 5 (by decide) lkf22 (fun _ h9 => h9) rfl dX8_pull_43 ?_
      refine lv_iconst (v := (0 : Int32)) hx hb dX8_pull_46 (by decide) ?_
      refine iald (q0 := 0) (t0 := 0) (j := 0) hx hb hK hP 5 rfl rfl (vp_in_iff.mpr (by decide)) dX8_pull_47 ?_
      refine lv_icmp_ge (tgt := 87) hx hb dX8_pull_48 (by decide) (fun hc => ?_) (fun hc => ?_)
      · have h := if_t hc h
        cases h
        exact K0 _ _ hP hD hS _ (lv_sub hl [0, 1, 2] rfl)
      · have h := if_f hc h
        refine lv_iload_n hx hb dX8_pull_51 rfl (lv_at hl 2 rfl) ?_
        refine lv_if_eq (tgt := 79) hx hb dX8_pull_52 (by decide) (fun hc => ?_) (fun hc => ?_)
        · have h := if_t hc h
          refine lv_iconst (v := (0 : Int32)) hx hb dX8_pull_79 (by decide) ?_
          refine lv_istore_n (lv' := [(3, .int (0 : Int32)), (0, .ref (a0 0)), (2, .int x2), (4, .int x4)]) hx hb dX8_pull_80 rfl hl (by decide) rfl (fun ls hl => ?_)
          obtain ⟨v1, ev1⟩ : ∃ y : Int32, y = x4 + (1 : Int32) := ⟨_, rfl⟩
          refine lv_iinc (v := v1) (lv' := [(4, .int v1), (3, .int (0 : Int32)), (0, .ref (a0 0)), (2, .int x2)]) hx hb dX8_pull_81 hl (k := 3) rfl (by rw [ev1]; rfl) (by decide) rfl (fun ls hl => ?_)
          have h := nm_ap ev1 h
          refine lv_goto (tgt := 40) hx hb dX8_pull_84 (by decide) ?_
          exact ih (0 : Int32) v1 _ _ hP hD hS ls (lv_sub hl [2, 3, 1, 0] rfl) _ h K0
        · have h := if_f hc h
          refine lv_iload_n hx hb dX8_pull_55 rfl (lv_at hl 1 rfl) ?_
          refine lv_iload hx hb dX8_pull_56 (lv_at hl 3 rfl) ?_
          obtain ⟨z2, hz2, h⟩ := bd_some h
          refine cR_S (As := [.int x2, .int x4]) (rest := []) ⟨hx, hb, hml, hown, hts⟩ (c_X8_has l D cA  x2 x4 z2 hz2) (va_cwS 2 hts gX8_pull_X8_has rfl rfl rfl hd_X8_has.2 ⟨(Nat.le_of_ble_eq_true rfl), (Nat.le_of_ble_eq_true rfl)⟩) hK hP [] rfl rfl hl.1 rfl (Nat.le_of_ble_eq_true rfl) dX8_pull_58 ⟨(Nat.le_of_ble_eq_true rfl), (Nat.le_of_ble_eq_true rfl)⟩ ?_
          refine lv_if_eq (tgt := 75) hx hb dX8_pull_61 (by decide) (fun hc => ?_) (fun hc => ?_)
          · have h := if_t hc h
            refine lv_iconst (v := (1 : Int32)) hx hb dX8_pull_75 (by decide) ?_
            refine lv_goto (tgt := 80) hx hb dX8_pull_76 (by decide) ?_
            refine lv_istore_n (lv' := [(3, .int (1 : Int32)), (0, .ref (a0 0)), (2, .int x2), (4, .int x4)]) hx hb dX8_pull_80 rfl hl (by decide) rfl (fun ls hl => ?_)
            obtain ⟨v3, ev3⟩ : ∃ y : Int32, y = x4 + (1 : Int32) := ⟨_, rfl⟩
            refine lv_iinc (v := v3) (lv' := [(4, .int v3), (3, .int (1 : Int32)), (0, .ref (a0 0)), (2, .int x2)]) hx hb dX8_pull_81 hl (k := 3) rfl (by rw [ev3]; rfl) (by decide) rfl (fun ls hl => ?_)
            have h := nm_ap ev3 h
            refine lv_goto (tgt := 40) hx hb dX8_pull_84 (by decide) ?_
            exact ih (1 : Int32) v3 _ _ hP hD hS ls (lv_sub hl [2, 3, 1, 0] rfl) _ h K0
          · have h := if_f hc h
            refine lv_aload_n hx hb dX8_pull_64 rfl (lv_at hl 0 rfl) ?_
            refine va_get (D := D) (ci := 8) (v := .ref (a0 11)) (C := RX8) (T := TX8) (N := 27) hx hb hts hinX8 hown hK.1 hP 0 rfl rfl 10 (by decide) lkf37 (fun _ h9 => h9) rfl dX8_pull_65 ?_
            refine lv_iload hx hb dX8_pull_68 (lv_at hl 3 rfl) ?_
            obtain ⟨hi4, h⟩ := gd_some h
            refine iald (q0 := 0) (t0 := 0) (j := x4.toNatClampNeg) hx hb hK hP 10 rfl rfl (ck_in hi4) dX8_pull_70 ?_
            refine lv_iconst (v := (1 : Int32)) hx hb dX8_pull_71 (by decide) ?_
            refine lv_icmp_ne (tgt := 79) hx hb dX8_pull_72 (by decide) (fun hc => ?_) (fun hc => ?_)
            · have h := if_f hc h
              refine lv_iconst (v := (0 : Int32)) hx hb dX8_pull_79 (by decide) ?_
              refine lv_istore_n (lv' := [(3, .int (0 : Int32)), (0, .ref (a0 0)), (2, .int x2), (4, .int x4)]) hx hb dX8_pull_80 rfl hl (by decide) rfl (fun ls hl => ?_)
              obtain ⟨v5, ev5⟩ : ∃ y : Int32, y = x4 + (1 : Int32) := ⟨_, rfl⟩
              refine lv_iinc (v := v5) (lv' := [(4, .int v5), (3, .int (0 : Int32)), (0, .ref (a0 0)), (2, .int x2)]) hx hb dX8_pull_81 hl (k := 3) rfl (by rw [ev5]; rfl) (by decide) rfl (fun ls hl => ?_)
              have h := nm_ap ev5 h
              refine lv_goto (tgt := 40) hx hb dX8_pull_84 (by decide) ?_
              exact ih (0 : Int32) v5 _ _ hP hD hS ls (lv_sub hl [2, 3, 1, 0] rfl) _ h K0
            · have h := if_t hc h
              refine lv_iconst (v := (1 : Int32)) hx hb dX8_pull_75 (by decide) ?_
              refine lv_goto (tgt := 80) hx hb dX8_pull_76 (by decide) ?_
              refine lv_istore_n (lv' := [(3, .int (1 : Int32)), (0, .ref (a0 0)), (2, .int x2), (4, .int x4)]) hx hb dX8_pull_80 rfl hl (by decide) rfl (fun ls hl => ?_)
              obtain ⟨v6, ev6⟩ : ∃ y : Int32, y = x4 + (1 : Int32) := ⟨_, rfl⟩
              refine lv_iinc (v := v6) (lv' := [(4, .int v6), (3, .int (1 : Int32)), (0, .ref (a0 0)), (2, .int x2)]) hx hb dX8_pull_81 hl (k := 3) rfl (by rw [ev6]; rfl) (by decide) rfl (fun ls hl => ?_)
              have h := nm_ap ev6 h
              refine lv_goto (tgt := 40) hx hb dX8_pull_84 (by decide) ?_
              exact ih (1 : Int32) v6 _ _ hP hD hS ls (lv_sub hl [2, 3, 1, 0] rfl) _ h K0
  refine lv_aload_n hx hb dX8_pull_0 rfl (lv_at hl 0 rfl) ?_
  refine lv_iload_n hx hb dX8_pull_1 rfl (lv_at hl 1 rfl) ?_
  obtain ⟨z1, hz1, h⟩ := bd_some h
  refine cR_V (As := [.int x1]) (rest := []) ⟨hx, hb, hml, hown, hts⟩ (c_X8_isThere l D cA a0 o0 x1 z1 hz1) (cwV 1 hts gX8_pull_X8_isThere rfl rfl rfl hd_X8_isThere ⟨(Nat.le_of_ble_eq_true rfl), (Nat.le_of_ble_eq_true rfl)⟩) (recvK hK hP 0 8 rfl rfl) hK hP [0, 1, 2, 3, 4, 5, 6, 7, 8, 9, 10, 11, 12, 13, 14, 15, 16, 17, 18, 19, 20, 21, 22] rfl rfl hl.1 rfl (Nat.le_of_ble_eq_true rfl) dX8_pull_2 ⟨(Nat.le_of_ble_eq_true rfl), (Nat.le_of_ble_eq_true rfl)⟩ ?_
  refine lv_if_ne (tgt := 10) hx hb dX8_pull_5 (by decide) (fun hc => ?_) (fun hc => ?_)
  · have h := if_f hc h
    refine lv_aload_n hx hb dX8_pull_10 rfl (lv_at hl 0 rfl) ?_
    refine lv_iload_n hx hb dX8_pull_11 rfl (lv_at hl 1 rfl) ?_
    refine lv_aload_n hx hb dX8_pull_12 rfl (lv_at hl 0 rfl) ?_
    refine va_get (D := D) (ci := 8) (v := .ref (a0 12)) (C := RX8) (T := TX8) (N := 27) hx hb hts hinX8 hown hK.1 hP 0 rfl rfl 11 (by decide) lkf40 (fun _ h9 => h9) rfl dX8_pull_13 ?_
    refine lv_iconst (v := (0 : Int32)) hx hb dX8_pull_16 (by decide) ?_
    refine iald (q0 := 0) (t0 := 0) (j := 0) hx hb hK hP 11 rfl rfl (vp_in_iff.mpr (by decide)) dX8_pull_17 ?_
    obtain ⟨z2, hz2, h⟩ := bd_some h
    refine cR_V (As := [.int x1, .int (o0.2 11 0)]) (rest := []) ⟨hx, hb, hml, hown, hts⟩ (c_X8_above l D cA a0 o0 x1 (o0.2 11 0) z2 hz2) (cwV 2 hts gX8_pull_X8_above rfl rfl rfl hd_X8_above ⟨(Nat.le_of_ble_eq_true rfl), (Nat.le_of_ble_eq_true rfl)⟩) (recvK hK hP 0 8 rfl rfl) hK hP [0, 1, 2, 3, 4, 5, 6, 7, 8, 9, 10, 11, 12, 13, 14, 15, 16, 17, 18, 19, 20, 21, 22] rfl rfl hl.1 rfl (Nat.le_of_ble_eq_true rfl) dX8_pull_18 ⟨(Nat.le_of_ble_eq_true rfl), (Nat.le_of_ble_eq_true rfl)⟩ ?_
    refine lv_iconst (v := (1 : Int32)) hx hb dX8_pull_21 (by decide) ?_
    refine lv_iload_n hx hb dX8_pull_22 rfl (lv_at hl 1 rfl) ?_
    refine lv_ishl hx hb dX8_pull_23 ?_
    refine lv_ior hx hb dX8_pull_24 ?_
    refine lv_topi (fun v3 ev3 => ?_)
    have h := nm_ap ev3 h
    refine lv_istore_n (lv' := [(2, .int v3), (0, .ref (a0 0)), (1, .int x1)]) hx hb dX8_pull_25 rfl hl (by decide) rfl (fun ls hl => ?_)
    refine lv_aload_n hx hb dX8_pull_26 rfl (lv_at hl 1 rfl) ?_
    refine va_get (D := D) (ci := 8) (v := .ref (a0 12)) (C := RX8) (T := TX8) (N := 27) hx hb hts hinX8 hown hK.1 hP 0 rfl rfl 11 (by decide) lkf40 (fun _ h9 => h9) rfl dX8_pull_27 ?_
    refine lv_iconst (v := (0 : Int32)) hx hb dX8_pull_30 (by decide) ?_
    refine iald (q0 := 0) (t0 := 0) (j := 0) hx hb hK hP 11 rfl rfl (vp_in_iff.mpr (by decide)) dX8_pull_31 ?_
    refine lv_iload_n hx hb dX8_pull_32 rfl (lv_at hl 2 rfl) ?_
    obtain ⟨z4, hz4, h⟩ := bd_some h
    refine cR_S (As := [.int (o0.2 11 0), .int x1]) (rest := []) ⟨hx, hb, hml, hown, hts⟩ (c_X8_has l D cA  (o0.2 11 0) x1 z4 hz4) (va_cwS 2 hts gX8_pull_X8_has rfl rfl rfl hd_X8_has.2 ⟨(Nat.le_of_ble_eq_true rfl), (Nat.le_of_ble_eq_true rfl)⟩) hK hP [] rfl rfl hl.1 rfl (Nat.le_of_ble_eq_true rfl) dX8_pull_33 ⟨(Nat.le_of_ble_eq_true rfl), (Nat.le_of_ble_eq_true rfl)⟩ ?_
    refine lv_istore_n (lv' := [(3, .int z4), (2, .int v3), (0, .ref (a0 0)), (1, .int x1)]) hx hb dX8_pull_36 rfl hl (by decide) rfl (fun ls hl => ?_)
    refine lv_iconst (v := (0 : Int32)) hx hb dX8_pull_37 (by decide) ?_
    refine lv_istore (lv' := [(4, .int (0 : Int32)), (3, .int z4), (2, .int v3), (0, .ref (a0 0)), (1, .int x1)]) hx hb dX8_pull_38 hl (by decide) rfl (fun ls hl => ?_)
    obtain ⟨z5, hz5, h⟩ := bd_some h
    refine LP40 v3 o0 512 z4 (0 : Int32) _ _ hP hD hS ls (lv_sub hl [3, 2, 1, 0] rfl) _ hz5 ?_
    · intro H locs hP hD hS ls hl
      refine lv_iload_n hx hb dX8_pull_87 rfl (lv_at hl 2 rfl) ?_
      refine lv_if_eq (tgt := 99) hx hb dX8_pull_88 (by decide) (fun hc => ?_) (fun hc => ?_)
      · have h := if_t hc h
        refine lv_bipush (v := (-2 : Int32)) hx hb dX8_pull_99 (by decide) ?_
        cases h
        exact hend _ _ _ _ hP hD hS dX8_pull_101
      · have h := if_f hc h
        refine lv_aload_n hx hb dX8_pull_91 rfl (lv_at hl 0 rfl) ?_
        refine lv_iload_n hx hb dX8_pull_92 rfl (lv_at hl 1 rfl) ?_
        obtain ⟨z6, hz6, h⟩ := bd_some h
        refine cW_V (As := [.int v3]) (rest := []) (wn := (wX8 cA a0 z6.2)) ⟨hx, hb, hml, hown, hts⟩ (c_X8_takeOut l D cA a0 o0 v3 z6.1 z6.2 hz6) (cwV 1 hts gX8_pull_X8_takeOut rfl rfl rfl hd_X8_takeOut ⟨(Nat.le_of_ble_eq_true rfl), (Nat.le_of_ble_eq_true rfl)⟩) (recvK hK hP 0 8 rfl rfl) hK hP hD hS hA [0, 1, 2, 3, 4, 5, 6, 7, 8, 9, 10, 11, 12, 13, 14, 15, 16, 17, 18, 19, 20, 21, 22] [] [0, 1, 2, 3, 4, 5, 6, 7, 8, 9, 10, 11, 12, 13, 14, 15, 16, 17, 18, 19, 20, 21, 22] rfl rfl rfl rfl rfl rfl rfl rfl hl.1 rfl (Nat.le_of_ble_eq_true rfl) dX8_pull_93 ⟨(Nat.le_of_ble_eq_true rfl), (Nat.le_of_ble_eq_true rfl)⟩ (fun H locs hP hD hS => ?_)
        refine lv_goto (tgt := 101) hx hb dX8_pull_96 (by decide) ?_
        cases h
        exact hend _ _ _ _ hP hD hS dX8_pull_101
  · have h := if_t hc h
    refine lv_iconst (v := (-1 : Int32)) hx hb dX8_pull_8 (by decide) ?_
    cases h
    exact hend _ _ _ _ hP hD hS dX8_pull_9
abbrev rmX8_cut : Room := ({ frames := 2, cells := 0, slots := 0, locals := 46 } : Room)
set_option maxHeartbeats 4000000 in
set_option maxRecDepth 100000 in
theorem c_X8_cut (l : Launch) (D : va_G) (cA : ClassId) (a0 : (Nat → Nat)) (o0 : Ob) (x1 : Int32) (r : Int32) (o0_ : Ob) (h : f_X8_cut o0 x1 = some (r, o0_)) : ConW l yX8_cut wsX8_cut rmX8_cut D cA [.ref (a0 0), .int x1] (wX8 cA a0 o0) r (wX8 cA a0 o0_) := by
  refine ConW.enter (cc := cX8_cut) (maxL := 2) (by decide) rfl (Nat.le_of_ble_eq_true rfl) ?_
  intro p e s m args below meth c Q A hx hb hml hown hts hK hP hD hA hend ls hl
  have hS : va_S A s.heap s.heap [] := va_S.rf
  have hl : lv_has ls 2 [(0, .ref (a0 0)), (1, .int x1)] := hl
  unfold f_X8_cut at h
  have lkf40 := hts (.fieldLink RX8 40 "TiedToTownModel" "tied" "[I") (List.mem_of_getElem? (i := 1) rfl)
  have hinX8 : ∀ w ∈ wsX80, w ∈ wsX8_cut := fun w h => List.mem_cons_of_mem _ (List.mem_append_right _ h)
  refine lv_aload_n hx hb dX8_cut_0 rfl (lv_at hl 0 rfl) ?_
  refine lv_iload_n hx hb dX8_cut_1 rfl (lv_at hl 1 rfl) ?_
  obtain ⟨z1, hz1, h⟩ := bd_some h
  refine cR_V (As := [.int x1]) (rest := []) ⟨hx, hb, hml, hown, hts⟩ (c_X8_isThere l D cA a0 o0 x1 z1 hz1) (cwV 1 hts gX8_cut_X8_isThere rfl rfl rfl hd_X8_isThere ⟨(Nat.le_of_ble_eq_true rfl), (Nat.le_of_ble_eq_true rfl)⟩) (recvK hK hP 0 8 rfl rfl) hK hP [0, 1, 2, 3, 4, 5, 6, 7, 8, 9, 10, 11, 12, 13, 14, 15, 16, 17, 18, 19, 20, 21, 22] rfl rfl hl.1 rfl (Nat.le_of_ble_eq_true rfl) dX8_cut_2 ⟨(Nat.le_of_ble_eq_true rfl), (Nat.le_of_ble_eq_true rfl)⟩ ?_
  refine lv_if_ne (tgt := 10) hx hb dX8_cut_5 (by decide) (fun hc => ?_) (fun hc => ?_)
  · have h := if_f hc h
    refine lv_aload_n hx hb dX8_cut_10 rfl (lv_at hl 0 rfl) ?_
    refine va_get (D := D) (ci := 8) (v := .ref (a0 12)) (C := RX8) (T := TX8) (N := 27) hx hb hts hinX8 hown hK.1 hP 0 rfl rfl 11 (by decide) lkf40 (fun _ h9 => h9) rfl dX8_cut_11 ?_
    refine lv_iconst (v := (0 : Int32)) hx hb dX8_cut_14 (by decide) ?_
    refine iald (q0 := 0) (t0 := 0) (j := 0) hx hb hK hP 11 rfl rfl (vp_in_iff.mpr (by decide)) dX8_cut_15 ?_
    refine lv_iload_n hx hb dX8_cut_16 rfl (lv_at hl 1 rfl) ?_
    obtain ⟨z2, hz2, h⟩ := bd_some h
    refine cR_S (As := [.int (o0.2 11 0), .int x1]) (rest := []) ⟨hx, hb, hml, hown, hts⟩ (c_X8_has l D cA  (o0.2 11 0) x1 z2 hz2) (va_cwS 2 hts gX8_cut_X8_has rfl rfl rfl hd_X8_has.2 ⟨(Nat.le_of_ble_eq_true rfl), (Nat.le_of_ble_eq_true rfl)⟩) hK hP [] rfl rfl hl.1 rfl (Nat.le_of_ble_eq_true rfl) dX8_cut_17 ⟨(Nat.le_of_ble_eq_true rfl), (Nat.le_of_ble_eq_true rfl)⟩ ?_
    refine lv_if_eq (tgt := 45) hx hb dX8_cut_20 (by decide) (fun hc => ?_) (fun hc => ?_)
    · have h := if_t hc h
      refine lv_bipush (v := (-2 : Int32)) hx hb dX8_cut_45 (by decide) ?_
      cases h
      exact hend _ _ _ _ hP hD hS dX8_cut_47
    · have h := if_f hc h
      refine lv_aload_n hx hb dX8_cut_23 rfl (lv_at hl 0 rfl) ?_
      refine lv_aload_n hx hb dX8_cut_24 rfl (lv_at hl 0 rfl) ?_
      refine lv_iload_n hx hb dX8_cut_25 rfl (lv_at hl 1 rfl) ?_
      refine lv_aload_n hx hb dX8_cut_26 rfl (lv_at hl 0 rfl) ?_
      refine va_get (D := D) (ci := 8) (v := .ref (a0 12)) (C := RX8) (T := TX8) (N := 27) hx hb hts hinX8 hown hK.1 hP 0 rfl rfl 11 (by decide) lkf40 (fun _ h9 => h9) rfl dX8_cut_27 ?_
      refine lv_iconst (v := (0 : Int32)) hx hb dX8_cut_30 (by decide) ?_
      refine iald (q0 := 0) (t0 := 0) (j := 0) hx hb hK hP 11 rfl rfl (vp_in_iff.mpr (by decide)) dX8_cut_31 ?_
      obtain ⟨z3, hz3, h⟩ := bd_some h
      refine cR_V (As := [.int x1, .int (o0.2 11 0)]) (rest := [.ref (a0 0)]) ⟨hx, hb, hml, hown, hts⟩ (c_X8_above l D cA a0 o0 x1 (o0.2 11 0) z3 hz3) (cwV 2 hts gX8_cut_X8_above rfl rfl rfl hd_X8_above ⟨(Nat.le_of_ble_eq_true rfl), (Nat.le_of_ble_eq_true rfl)⟩) (recvK hK hP 0 8 rfl rfl) hK hP [0, 1, 2, 3, 4, 5, 6, 7, 8, 9, 10, 11, 12, 13, 14, 15, 16, 17, 18, 19, 20, 21, 22] rfl rfl hl.1 rfl (Nat.le_of_ble_eq_true rfl) dX8_cut_32 ⟨(Nat.le_of_ble_eq_true rfl), (Nat.le_of_ble_eq_true rfl)⟩ ?_
      refine lv_iconst (v := (1 : Int32)) hx hb dX8_cut_35 (by decide) ?_
      refine lv_iload_n hx hb dX8_cut_36 rfl (lv_at hl 1 rfl) ?_
      refine lv_ishl hx hb dX8_cut_37 ?_
      refine lv_ior hx hb dX8_cut_38 ?_
      obtain ⟨z4, hz4, h⟩ := bd_some h
      refine cW_V (As := [.int (z3 ||| ((1 : Int32) <<< (x1 &&& 31)))]) (rest := []) (wn := (wX8 cA a0 z4.2)) ⟨hx, hb, hml, hown, hts⟩ (c_X8_takeOut l D cA a0 o0 (z3 ||| ((1 : Int32) <<< (x1 &&& 31))) z4.1 z4.2 hz4) (cwV 1 hts gX8_cut_X8_takeOut rfl rfl rfl hd_X8_takeOut ⟨(Nat.le_of_ble_eq_true rfl), (Nat.le_of_ble_eq_true rfl)⟩) (recvK hK hP 0 8 rfl rfl) hK hP hD hS hA [0, 1, 2, 3, 4, 5, 6, 7, 8, 9, 10, 11, 12, 13, 14, 15, 16, 17, 18, 19, 20, 21, 22] [] [0, 1, 2, 3, 4, 5, 6, 7, 8, 9, 10, 11, 12, 13, 14, 15, 16, 17, 18, 19, 20, 21, 22] rfl rfl rfl rfl rfl rfl rfl rfl hl.1 rfl (Nat.le_of_ble_eq_true rfl) dX8_cut_39 ⟨(Nat.le_of_ble_eq_true rfl), (Nat.le_of_ble_eq_true rfl)⟩ (fun H locs hP hD hS => ?_)
      refine lv_goto (tgt := 47) hx hb dX8_cut_42 (by decide) ?_
      cases h
      exact hend _ _ _ _ hP hD hS dX8_cut_47
  · have h := if_t hc h
    refine lv_iconst (v := (-1 : Int32)) hx hb dX8_cut_8 (by decide) ?_
    cases h
    exact hend _ _ _ _ hP hD hS dX8_cut_9
abbrev rmX8_days : Room := ({ frames := 1, cells := 0, slots := 0, locals := 25 } : Room)
set_option maxHeartbeats 4000000 in
set_option maxRecDepth 100000 in
theorem c_X8_days (l : Launch) (D : va_G) (cA : ClassId) (a0 : (Nat → Nat)) (o0 : Ob) (x1 : Int32) (r : Int32) (o0_ : Ob) (h : f_X8_days o0 x1 = some (r, o0_)) : ConW l yX8_days wsX8_days rmX8_days D cA [.ref (a0 0), .int x1] (wX8 cA a0 o0) r (wX8 cA a0 o0_) := by
  refine ConW.enter (cc := cX8_days) (maxL := 2) (by decide) rfl (Nat.le_of_ble_eq_true rfl) ?_
  intro p e s m args below meth c Q A hx hb hml hown hts hK hP hD hA hend ls hl
  have hS : va_S A s.heap s.heap [] := va_S.rf
  have hl : lv_has ls 2 [(0, .ref (a0 0)), (1, .int x1)] := hl
  unfold f_X8_days at h
  have lkc105 := hts (.constantLong RX8 105 (99)) (List.mem_of_getElem? (i := 1) rfl)
  have lkf43 := hts (.fieldLink RX8 43 "TiedToTownModel" "day" "[I") (List.mem_of_getElem? (i := 2) rfl)
  have hinX8 : ∀ w ∈ wsX80, w ∈ wsX8_days := fun w h => List.mem_cons_of_mem _ (List.mem_append_right _ h)
  refine lv_iload_n hx hb dX8_days_0 rfl (lv_at hl 1 rfl) ?_
  refine lv_i2l hx hb dX8_days_1 rfl ?_
  refine lv_lconst (v := (1 : Int64)) hx hb dX8_days_2 (by decide) ?_
  refine lv_ldc2 hx hb hown lkc105 dX8_days_3 ?_
  obtain ⟨z1, hz1, h⟩ := bd_some h
  refine cR_S (As := [.long x1.toInt64, .long (1 : Int64), .long (99 : Int64)]) (rest := []) ⟨hx, hb, hml, hown, hts⟩ (c_X8_in l D cA  x1.toInt64 (1 : Int64) (99 : Int64) z1 hz1) (va_cwS 3 hts gX8_days_X8_in rfl rfl rfl hd_X8_in.2 ⟨(Nat.le_of_ble_eq_true rfl), (Nat.le_of_ble_eq_true rfl)⟩) hK hP [] rfl rfl hl.1 rfl (Nat.le_of_ble_eq_true rfl) dX8_days_6 ⟨(Nat.le_of_ble_eq_true rfl), (Nat.le_of_ble_eq_true rfl)⟩ ?_
  refine lv_if_ne (tgt := 14) hx hb dX8_days_9 (by decide) (fun hc => ?_) (fun hc => ?_)
  · have h := if_f hc h
    refine lv_aload_n hx hb dX8_days_14 rfl (lv_at hl 0 rfl) ?_
    refine va_get (D := D) (ci := 8) (v := .ref (a0 13)) (C := RX8) (T := TX8) (N := 27) hx hb hts hinX8 hown hK.1 hP 0 rfl rfl 12 (by decide) lkf43 (fun _ h9 => h9) rfl dX8_days_15 ?_
    refine lv_iconst (v := (0 : Int32)) hx hb dX8_days_18 (by decide) ?_
    refine iald (q0 := 0) (t0 := 0) (j := 0) hx hb hK hP 12 rfl rfl (vp_in_iff.mpr (by decide)) dX8_days_19 ?_
    refine lv_iload_n hx hb dX8_days_20 rfl (lv_at hl 1 rfl) ?_
    refine lv_iadd hx hb dX8_days_21 ?_
    refine lv_bipush (v := (99 : Int32)) hx hb dX8_days_22 (by decide) ?_
    refine lv_icmp_le (tgt := 30) hx hb dX8_days_24 (by decide) (fun hc => ?_) (fun hc => ?_)
    · have h := if_t hc h
      refine lv_aload_n hx hb dX8_days_30 rfl (lv_at hl 0 rfl) ?_
      obtain ⟨z2, hz2, h⟩ := bd_some h
      refine cV_V (As := []) (rest := []) (wn := (wX8 cA a0 z2)) ⟨hx, hb, hml, hown, hts⟩ (c_X8_note l D cA a0 o0   z2 hz2) (cwV 0 hts gX8_days_X8_note rfl rfl rfl hd_X8_note ⟨(Nat.le_of_ble_eq_true rfl), (Nat.le_of_ble_eq_true rfl)⟩) (recvK hK hP 0 8 rfl rfl) hK hP hD hS hA [0, 1, 2, 3, 4, 5, 6, 7, 8, 9, 10, 11, 12, 13, 14, 15, 16, 17, 18, 19, 20, 21, 22] [] [0, 1, 2, 3, 4, 5, 6, 7, 8, 9, 10, 11, 12, 13, 14, 15, 16, 17, 18, 19, 20, 21, 22] rfl rfl rfl rfl rfl rfl rfl rfl hl.1 rfl (Nat.le_of_ble_eq_true rfl) dX8_days_31 ⟨(Nat.le_of_ble_eq_true rfl), (Nat.le_of_ble_eq_true rfl)⟩ (fun H locs hP hD hS => ?_)
      refine lv_aload_n hx hb dX8_days_34 rfl (lv_at hl 0 rfl) ?_
      refine va_get (D := D) (ci := 8) (v := .ref (a0 13)) (C := RX8) (T := TX8) (N := 27) hx hb hts hinX8 hown hK.1 hP 0 rfl rfl 12 (by decide) lkf43 (fun _ h9 => h9) rfl dX8_days_35 ?_
      refine lv_iconst (v := (0 : Int32)) hx hb dX8_days_38 (by decide) ?_
      refine lv_dup2_11 hx hb dX8_days_39 rfl rfl ?_
      refine iald (q0 := 0) (t0 := 0) (j := 0) hx hb hK hP 12 rfl rfl (vp_in_iff.mpr (by decide)) dX8_days_40 ?_
      refine lv_iload_n hx hb dX8_days_41 rfl (lv_at hl 1 rfl) ?_
      refine lv_iadd hx hb dX8_days_42 ?_
      refine iast (j := 0) (wn := (wX8 cA a0 (sA z2 12 0 ((z2.2 12 0) + x1)))) hx hb hK hP hD hS 12 rfl rfl (vp_in_iff.mpr (by decide)) dX8_days_43 rfl (fun H locs hP hD hS => ?_)
      obtain ⟨s3, es3⟩ : ∃ z, z = sA z2 12 0 ((z2.2 12 0) + x1) := ⟨_, rfl⟩
      rw [← es3] at hP hD
      have h := nm_ap es3 h
      refine lv_aload_n hx hb dX8_days_44 rfl (lv_at hl 0 rfl) ?_
      refine va_get (D := D) (ci := 8) (v := .ref (a0 13)) (C := RX8) (T := TX8) (N := 27) hx hb hts hinX8 hown hK.1 hP 0 rfl rfl 12 (by decide) lkf43 (fun _ h9 => h9) rfl dX8_days_45 ?_
      refine lv_iconst (v := (0 : Int32)) hx hb dX8_days_48 (by decide) ?_
      refine iald (q0 := 0) (t0 := 0) (j := 0) hx hb hK hP 12 rfl rfl (vp_in_iff.mpr (by decide)) dX8_days_49 ?_
      cases h
      exact hend _ _ _ _ hP hD hS dX8_days_50
    · have h := if_f hc h
      refine lv_bipush (v := (-2 : Int32)) hx hb dX8_days_27 (by decide) ?_
      cases h
      exact hend _ _ _ _ hP hD hS dX8_days_29
  · have h := if_t hc h
    refine lv_iconst (v := (-1 : Int32)) hx hb dX8_days_12 (by decide) ?_
    cases h
    exact hend _ _ _ _ hP hD hS dX8_days_13
abbrev rmX8_takeBack : Room := ({ frames := 0, cells := 0, slots := 0, locals := 0 } : Room)
set_option maxHeartbeats 4000000 in
set_option maxRecDepth 100000 in
theorem c_X8_takeBack (l : Launch) (D : va_G) (cA : ClassId) (a0 : (Nat → Nat)) (o0 : Ob) (r : Int32) (o0_ : Ob) (h : f_X8_takeBack o0 = some (r, o0_)) : ConW l yX8_takeBack wsX8_takeBack rmX8_takeBack D cA [.ref (a0 0)] (wX8 cA a0 o0) r (wX8 cA a0 o0_) := by
  refine ConW.enter (cc := cX8_takeBack) (maxL := 1) (by decide) rfl (Nat.le_of_ble_eq_true rfl) ?_
  intro p e s m args below meth c Q A hx hb hml hown hts hK hP hD hA hend ls hl
  have hS : va_S A s.heap s.heap [] := va_S.rf
  have hl : lv_has ls 1 [(0, .ref (a0 0))] := hl
  unfold f_X8_takeBack at h
  have lkf134 := hts (.fieldLink RX8 134 "TiedToTownModel" "doneMany" "I") (List.mem_of_getElem? (i := 1) rfl)
  have hinX8 : ∀ w ∈ wsX80, w ∈ wsX8_takeBack := fun w h => List.mem_cons_of_mem _ (List.mem_append_right _ h)
  have lkf22 := hts (.fieldLink RX8 22 "TiedToTownModel" "many" "[I") (List.mem_of_getElem? (i := 2) rfl)
  have lkf46 := hts (.fieldLink RX8 46 "TiedToTownModel" "done" "[I") (List.mem_of_getElem? (i := 3) rfl)
  have lkf40 := hts (.fieldLink RX8 40 "TiedToTownModel" "tied" "[I") (List.mem_of_getElem? (i := 4) rfl)
  have lkf43 := hts (.fieldLink RX8 43 "TiedToTownModel" "day" "[I") (List.mem_of_getElem? (i := 5) rfl)
  have lkf137 := hts (.fieldLink RX8 137 "TiedToTownModel" "rowMany" "I") (List.mem_of_getElem? (i := 6) rfl)
  refine lv_aload_n hx hb dX8_takeBack_0 rfl (lv_at hl 0 rfl) ?_
  refine va_get (D := D) (ci := 8) (v := .int (o0.1 14)) (C := RX8) (T := TX8) (N := 27) hx hb hts hinX8 hown hK.1 hP 0 rfl rfl 14 (by decide) lkf134 (fun _ h9 => h9) rfl dX8_takeBack_1 ?_
  refine lv_if_ne (tgt := 10) hx hb dX8_takeBack_4 (by decide) (fun hc => ?_) (fun hc => ?_)
  · have h := if_f hc h
    refine lv_aload_n hx hb dX8_takeBack_10 rfl (lv_at hl 0 rfl) ?_
    refine lv_dup hx hb dX8_takeBack_11 rfl ?_
    refine va_get (D := D) (ci := 8) (v := .int (o0.1 14)) (C := RX8) (T := TX8) (N := 27) hx hb hts hinX8 hown hK.1 hP 0 rfl rfl 14 (by decide) lkf134 (fun _ h9 => h9) rfl dX8_takeBack_12 ?_
    refine lv_iconst (v := (1 : Int32)) hx hb dX8_takeBack_15 (by decide) ?_
    refine lv_isub hx hb dX8_takeBack_16 ?_
    refine va_put (D := D) (ci := 8) (v := .int ((o0.1 14) - (1 : Int32))) (ty := .int) (C := RX8) (T := TX8) (N := 27) hx hb hts hinX8 tyX8 tyX8_ok nmX8 hown hK.1 hP hD hS 0 rfl rfl 14 (by decide) lkf134 (fun _ h9 => h9) rfl (by decide +kernel) rfl rfl (Nat.le_of_ble_eq_true rfl) dX8_takeBack_17 (fun H locs hP hD hS => ?_)
    have hP : va_P D vwCl (wX8 cA a0 (sF o0 14 ((o0.1 14) - (1 : Int32)))) H := hP
    have hD : va_D A (wX8 cA a0 (sF o0 14 ((o0.1 14) - (1 : Int32)))) := hD
    obtain ⟨s1, es1⟩ : ∃ z, z = sF o0 14 ((o0.1 14) - (1 : Int32)) := ⟨_, rfl⟩
    rw [← es1] at hP hD
    have h := nm_ap es1 h
    refine lv_aload_n hx hb dX8_takeBack_20 rfl (lv_at hl 0 rfl) ?_
    refine va_get (D := D) (ci := 8) (v := .ref (a0 6)) (C := RX8) (T := TX8) (N := 27) hx hb hts hinX8 hown hK.1 hP 0 rfl rfl 5 (by decide) lkf22 (fun _ h9 => h9) rfl dX8_takeBack_21 ?_
    refine lv_iconst (v := (0 : Int32)) hx hb dX8_takeBack_24 (by decide) ?_
    refine lv_aload_n hx hb dX8_takeBack_25 rfl (lv_at hl 0 rfl) ?_
    refine va_get (D := D) (ci := 8) (v := .ref (a0 16)) (C := RX8) (T := TX8) (N := 27) hx hb hts hinX8 hown hK.1 hP 0 rfl rfl 15 (by decide) lkf46 (fun _ h9 => h9) rfl dX8_takeBack_26 ?_
    refine lv_iconst (v := (3 : Int32)) hx hb dX8_takeBack_29 (by decide) ?_
    refine lv_aload_n hx hb dX8_takeBack_30 rfl (lv_at hl 0 rfl) ?_
    refine va_get (D := D) (ci := 8) (v := .int (s1.1 14)) (C := RX8) (T := TX8) (N := 27) hx hb hts hinX8 hown hK.1 hP 0 rfl rfl 14 (by decide) lkf134 (fun _ h9 => h9) rfl dX8_takeBack_31 ?_
    refine lv_imul hx hb dX8_takeBack_34 ?_
    obtain ⟨hi2, h⟩ := gd_some h
    refine iald (q0 := 0) (t0 := 0) (j := ((3 : Int32) * (s1.1 14)).toNatClampNeg) hx hb hK hP 13 rfl rfl (ck_in hi2) dX8_takeBack_35 ?_
    refine iast (j := 0) (wn := (wX8 cA a0 (sA s1 5 0 (s1.2 15 ((3 : Int32) * (s1.1 14)).toNatClampNeg)))) hx hb hK hP hD hS 5 rfl rfl (vp_in_iff.mpr (by decide)) dX8_takeBack_36 rfl (fun H locs hP hD hS => ?_)
    obtain ⟨s3, es3⟩ : ∃ z, z = sA s1 5 0 (s1.2 15 ((3 : Int32) * (s1.1 14)).toNatClampNeg) := ⟨_, rfl⟩
    rw [← es3] at hP hD
    have h := nm_ap es3 h
    refine lv_aload_n hx hb dX8_takeBack_37 rfl (lv_at hl 0 rfl) ?_
    refine va_get (D := D) (ci := 8) (v := .ref (a0 12)) (C := RX8) (T := TX8) (N := 27) hx hb hts hinX8 hown hK.1 hP 0 rfl rfl 11 (by decide) lkf40 (fun _ h9 => h9) rfl dX8_takeBack_38 ?_
    refine lv_iconst (v := (0 : Int32)) hx hb dX8_takeBack_41 (by decide) ?_
    refine lv_aload_n hx hb dX8_takeBack_42 rfl (lv_at hl 0 rfl) ?_
    refine va_get (D := D) (ci := 8) (v := .ref (a0 16)) (C := RX8) (T := TX8) (N := 27) hx hb hts hinX8 hown hK.1 hP 0 rfl rfl 15 (by decide) lkf46 (fun _ h9 => h9) rfl dX8_takeBack_43 ?_
    refine lv_iconst (v := (3 : Int32)) hx hb dX8_takeBack_46 (by decide) ?_
    refine lv_aload_n hx hb dX8_takeBack_47 rfl (lv_at hl 0 rfl) ?_
    refine va_get (D := D) (ci := 8) (v := .int (s3.1 14)) (C := RX8) (T := TX8) (N := 27) hx hb hts hinX8 hown hK.1 hP 0 rfl rfl 14 (by decide) lkf134 (fun _ h9 => h9) rfl dX8_takeBack_48 ?_
    refine lv_imul hx hb dX8_takeBack_51 ?_
    refine lv_iconst (v := (1 : Int32)) hx hb dX8_takeBack_52 (by decide) ?_
    refine lv_iadd hx hb dX8_takeBack_53 ?_
    obtain ⟨hi4, h⟩ := gd_some h
    refine iald (q0 := 0) (t0 := 0) (j := (((3 : Int32) * (s3.1 14)) + (1 : Int32)).toNatClampNeg) hx hb hK hP 13 rfl rfl (ck_in hi4) dX8_takeBack_54 ?_
    refine iast (j := 0) (wn := (wX8 cA a0 (sA s3 11 0 (s3.2 15 (((3 : Int32) * (s3.1 14)) + (1 : Int32)).toNatClampNeg)))) hx hb hK hP hD hS 11 rfl rfl (vp_in_iff.mpr (by decide)) dX8_takeBack_55 rfl (fun H locs hP hD hS => ?_)
    obtain ⟨s5, es5⟩ : ∃ z, z = sA s3 11 0 (s3.2 15 (((3 : Int32) * (s3.1 14)) + (1 : Int32)).toNatClampNeg) := ⟨_, rfl⟩
    rw [← es5] at hP hD
    have h := nm_ap es5 h
    refine lv_aload_n hx hb dX8_takeBack_56 rfl (lv_at hl 0 rfl) ?_
    refine va_get (D := D) (ci := 8) (v := .ref (a0 13)) (C := RX8) (T := TX8) (N := 27) hx hb hts hinX8 hown hK.1 hP 0 rfl rfl 12 (by decide) lkf43 (fun _ h9 => h9) rfl dX8_takeBack_57 ?_
    refine lv_iconst (v := (0 : Int32)) hx hb dX8_takeBack_60 (by decide) ?_
    refine lv_aload_n hx hb dX8_takeBack_61 rfl (lv_at hl 0 rfl) ?_
    refine va_get (D := D) (ci := 8) (v := .ref (a0 16)) (C := RX8) (T := TX8) (N := 27) hx hb hts hinX8 hown hK.1 hP 0 rfl rfl 15 (by decide) lkf46 (fun _ h9 => h9) rfl dX8_takeBack_62 ?_
    refine lv_iconst (v := (3 : Int32)) hx hb dX8_takeBack_65 (by decide) ?_
    refine lv_aload_n hx hb dX8_takeBack_66 rfl (lv_at hl 0 rfl) ?_
    refine va_get (D := D) (ci := 8) (v := .int (s5.1 14)) (C := RX8) (T := TX8) (N := 27) hx hb hts hinX8 hown hK.1 hP 0 rfl rfl 14 (by decide) lkf134 (fun _ h9 => h9) rfl dX8_takeBack_67 ?_
    refine lv_imul hx hb dX8_takeBack_70 ?_
    refine lv_iconst (v := (2 : Int32)) hx hb dX8_takeBack_71 (by decide) ?_
    refine lv_iadd hx hb dX8_takeBack_72 ?_
    obtain ⟨hi6, h⟩ := gd_some h
    refine iald (q0 := 0) (t0 := 0) (j := (((3 : Int32) * (s5.1 14)) + (2 : Int32)).toNatClampNeg) hx hb hK hP 13 rfl rfl (ck_in hi6) dX8_takeBack_73 ?_
    refine iast (j := 0) (wn := (wX8 cA a0 (sA s5 12 0 (s5.2 15 (((3 : Int32) * (s5.1 14)) + (2 : Int32)).toNatClampNeg)))) hx hb hK hP hD hS 12 rfl rfl (vp_in_iff.mpr (by decide)) dX8_takeBack_74 rfl (fun H locs hP hD hS => ?_)
    obtain ⟨s7, es7⟩ : ∃ z, z = sA s5 12 0 (s5.2 15 (((3 : Int32) * (s5.1 14)) + (2 : Int32)).toNatClampNeg) := ⟨_, rfl⟩
    rw [← es7] at hP hD
    have h := nm_ap es7 h
    refine lv_aload_n hx hb dX8_takeBack_75 rfl (lv_at hl 0 rfl) ?_
    refine lv_iconst (v := (0 : Int32)) hx hb dX8_takeBack_76 (by decide) ?_
    refine va_put (D := D) (ci := 8) (v := .int (0 : Int32)) (ty := .int) (C := RX8) (T := TX8) (N := 27) hx hb hts hinX8 tyX8 tyX8_ok nmX8 hown hK.1 hP hD hS 0 rfl rfl 16 (by decide) lkf137 (fun _ h9 => h9) rfl (by decide +kernel) rfl rfl (Nat.le_of_ble_eq_true rfl) dX8_takeBack_77 (fun H locs hP hD hS => ?_)
    have hP : va_P D vwCl (wX8 cA a0 (sF s7 16 (0 : Int32))) H := hP
    have hD : va_D A (wX8 cA a0 (sF s7 16 (0 : Int32))) := hD
    obtain ⟨s8, es8⟩ : ∃ z, z = sF s7 16 (0 : Int32) := ⟨_, rfl⟩
    rw [← es8] at hP hD
    have h := nm_ap es8 h
    refine lv_aload_n hx hb dX8_takeBack_80 rfl (lv_at hl 0 rfl) ?_
    refine va_get (D := D) (ci := 8) (v := .int (s8.1 14)) (C := RX8) (T := TX8) (N := 27) hx hb hts hinX8 hown hK.1 hP 0 rfl rfl 14 (by decide) lkf134 (fun _ h9 => h9) rfl dX8_takeBack_81 ?_
    cases h
    exact hend _ _ _ _ hP hD hS dX8_takeBack_84
  · have h := if_t hc h
    refine lv_bipush (v := (-2 : Int32)) hx hb dX8_takeBack_7 (by decide) ?_
    cases h
    exact hend _ _ _ _ hP hD hS dX8_takeBack_9
abbrev rmX8_undoSet : Room := ({ frames := 3, cells := 0, slots := 0, locals := 72 } : Room)
set_option maxHeartbeats 4000000 in
set_option maxRecDepth 100000 in
theorem c_X8_undoSet (l : Launch) (D : va_G) (cA : ClassId) (a0 : (Nat → Nat)) (o0 : Ob) (x1 : Int32) (x2 : Int32) (x3 : Int32) (r : Int32) (o0_ : Ob) (h : f_X8_undoSet o0 x1 x2 x3 = some (r, o0_)) : ConW l yX8_undoSet wsX8_undoSet rmX8_undoSet D cA [.ref (a0 0), .int x1, .int x2, .int x3] (wX8 cA a0 o0) r (wX8 cA a0 o0_) := by
  refine ConW.enter (cc := cX8_undoSet) (maxL := 8) (by decide) rfl (Nat.le_of_ble_eq_true rfl) ?_
  intro p e s m args below meth c Q A hx hb hml hown hts hK hP hD hA hend ls hl
  have hS : va_S A s.heap s.heap [] := va_S.rf
  have hl : lv_has ls 8 [(0, .ref (a0 0)), (1, .int x1), (2, .int x2), (3, .int x3)] := hl
  unfold f_X8_undoSet at h
  have lkf40 := hts (.fieldLink RX8 40 "TiedToTownModel" "tied" "[I") (List.mem_of_getElem? (i := 1) rfl)
  have hinX8 : ∀ w ∈ wsX80, w ∈ wsX8_undoSet := fun w h => List.mem_cons_of_mem _ (List.mem_append_right _ h)
  have lkf22 := hts (.fieldLink RX8 22 "TiedToTownModel" "many" "[I") (List.mem_of_getElem? (i := 2) rfl)
  have lkf61 := hts (.fieldLink RX8 61 "TiedToTownModel" "turn" "[I") (List.mem_of_getElem? (i := 3) rfl)
  have LP25 : ∀ (x1 : Int32) (x2 : Int32) (x3 : Int32) (n : Nat) (x4 : Int32) (x5 : Int32) (x6 : Int32) (x7 : Int32) (o0 : Ob) (H : Heap) (locs : List Loc) (_ : va_P D vwCl (wX8 cA a0 o0) H) (_ : va_D A (wX8 cA a0 o0)) (_ : va_S A s.heap H locs) (ls : Array Slot) (_ : lv_has ls 8 [(0, .ref (a0 0)), (1, .int x1), (2, .int x2), (3, .int x3), (4, .int x4), (5, .int x5), (6, .int x6), (7, .int x7)]) (res : Int32 × Int32 × Int32 × Ob) (_ : L_X8_undoSet_25 x1 x2 x3 n x4 x5 x6 x7 o0 = some res) (_ : (∀ (H : Heap) (locs : List Loc) (_ : va_P D vwCl (wX8 cA a0 res.2.2.2) H) (_ : va_D A (wX8 cA a0 res.2.2.2)) (_ : va_S A s.heap H locs) (ls : Array Slot), lv_has ls 8 [(0, .ref (a0 0)), (1, .int x1), (2, .int x2), (3, .int x3), (4, .int res.1), (5, .int res.2.1), (6, .int res.2.2.1)] → W p l e rmX8_undoSet s m args below meth c H locs 0 0 Q (F0 m 98 ls []))), W p l e rmX8_undoSet s m args below meth c H locs 0 0 Q (F0 m 25 ls []) := by
    intro x1 x2 x3 n
    induction n with
    | zero =>
      intro x4 x5 x6 x7 o0 H locs hP hD hS ls hl res h K0
      exact absurd h (fun q : (none : Option (Int32 × Int32 × Int32 × Ob)) = some res => by cases q)
    | succ n ih =>
      intro x4 x5 x6 x7 o0 H locs hP hD hS ls hl res h K0
      have h : L_X8_undoSet_25_step x1 x2 x3 (L_X8_undoSet_25 x1 x2 x3 n) x4 x5 x6 x7 o0 = some res := h
      unfold L_X8_undoSet_25_step at h
      refine lv_iload hx hb dX8_undoSet_25 (lv_at hl 7 rfl) ?_
      refine lv_aload_n hx hb dX8_undoSet_27 rfl (lv_at hl 0 rfl) ?_
      refine va_get (D := D) (ci := 8) (v := .ref (a0 6)) (C := RX8) (T := TX8) (N := 27) hx hb hts hinX8 hown hK.1 hP 0 rfl rfl 5 (by decide) lkf22 (fun _ h9 => h9) rfl dX8_undoSet_28 ?_
      refine lv_iconst (v := (0 : Int32)) hx hb dX8_undoSet_31 (by decide) ?_
      refine iald (q0 := 0) (t0 := 0) (j := 0) hx hb hK hP 5 rfl rfl (vp_in_iff.mpr (by decide)) dX8_undoSet_32 ?_
      refine lv_icmp_ge (tgt := 98) hx hb dX8_undoSet_33 (by decide) (fun hc => ?_) (fun hc => ?_)
      · have h := if_t hc h
        cases h
        exact K0 _ _ hP hD hS _ (lv_sub hl [0, 1, 2, 3, 4, 5, 6] rfl)
      · have h := if_f hc h
        refine lv_iload hx hb dX8_undoSet_36 (lv_at hl 6 rfl) ?_
        refine lv_if_ne (tgt := 98) hx hb dX8_undoSet_38 (by decide) (fun hc => ?_) (fun hc => ?_)
        · have h := if_f hc h
          cases h
          exact K0 _ _ hP hD hS _ (lv_sub hl [0, 1, 2, 3, 4, 5, 6] rfl)
        · have h := if_t hc h
          refine lv_iload_n hx hb dX8_undoSet_41 rfl (lv_at hl 1 rfl) ?_
          refine lv_iload hx hb dX8_undoSet_42 (lv_at hl 4 rfl) ?_
          refine lv_iand hx hb dX8_undoSet_44 ?_
          refine lv_iload hx hb dX8_undoSet_45 (lv_at hl 7 rfl) ?_
          obtain ⟨z1, hz1, h⟩ := bd_some h
          refine cR_S (As := [.int (x1 &&& x4), .int x7]) (rest := []) ⟨hx, hb, hml, hown, hts⟩ (c_X8_has l D cA  (x1 &&& x4) x7 z1 hz1) (va_cwS 2 hts gX8_undoSet_X8_has rfl rfl rfl hd_X8_has.2 ⟨(Nat.le_of_ble_eq_true rfl), (Nat.le_of_ble_eq_true rfl)⟩) hK hP [] rfl rfl hl.1 rfl (Nat.le_of_ble_eq_true rfl) dX8_undoSet_47 ⟨(Nat.le_of_ble_eq_true rfl), (Nat.le_of_ble_eq_true rfl)⟩ ?_
          refine lv_if_eq (tgt := 92) hx hb dX8_undoSet_50 (by decide) (fun hc => ?_) (fun hc => ?_)
          · have h := if_t hc h
            obtain ⟨v2, ev2⟩ : ∃ y : Int32, y = x7 + (1 : Int32) := ⟨_, rfl⟩
            refine lv_iinc (v := v2) (lv' := [(7, .int v2), (0, .ref (a0 0)), (1, .int x1), (2, .int x2), (3, .int x3), (4, .int x4), (5, .int x5), (6, .int x6)]) hx hb dX8_undoSet_92 hl (k := 7) rfl (by rw [ev2]; rfl) (by decide) rfl (fun ls hl => ?_)
            have h := nm_ap ev2 h
            refine lv_goto (tgt := 25) hx hb dX8_undoSet_95 (by decide) ?_
            exact ih x4 x5 x6 v2 o0 _ _ hP hD hS ls (lv_sub hl [1, 2, 3, 4, 5, 6, 7, 0] rfl) _ h K0
          · have h := if_f hc h
            refine lv_aload_n hx hb dX8_undoSet_53 rfl (lv_at hl 0 rfl) ?_
            refine lv_iload hx hb dX8_undoSet_54 (lv_at hl 7 rfl) ?_
            refine lv_iload hx hb dX8_undoSet_56 (lv_at hl 4 rfl) ?_
            refine lv_iload_n hx hb dX8_undoSet_58 rfl (lv_at hl 2 rfl) ?_
            refine lv_iload_n hx hb dX8_undoSet_59 rfl (lv_at hl 3 rfl) ?_
            obtain ⟨z3, hz3, h⟩ := bd_some h
            refine cR_V (As := [.int x7, .int x4, .int x2, .int x3]) (rest := []) ⟨hx, hb, hml, hown, hts⟩ (c_X8_mayBe l D cA a0 o0 x7 x4 x2 x3 z3 hz3) (cwV 4 hts gX8_undoSet_X8_mayBe rfl rfl rfl hd_X8_mayBe ⟨(Nat.le_of_ble_eq_true rfl), (Nat.le_of_ble_eq_true rfl)⟩) (recvK hK hP 0 8 rfl rfl) hK hP [0, 1, 2, 3, 4, 5, 6, 7, 8, 9, 10, 11, 12, 13, 14, 15, 16, 17, 18, 19, 20, 21, 22] rfl rfl hl.1 rfl (Nat.le_of_ble_eq_true rfl) dX8_undoSet_60 ⟨(Nat.le_of_ble_eq_true rfl), (Nat.le_of_ble_eq_true rfl)⟩ ?_
            refine lv_if_eq (tgt := 92) hx hb dX8_undoSet_63 (by decide) (fun hc => ?_) (fun hc => ?_)
            · have h := if_t hc h
              obtain ⟨v4, ev4⟩ : ∃ y : Int32, y = x7 + (1 : Int32) := ⟨_, rfl⟩
              refine lv_iinc (v := v4) (lv' := [(7, .int v4), (0, .ref (a0 0)), (1, .int x1), (2, .int x2), (3, .int x3), (4, .int x4), (5, .int x5), (6, .int x6)]) hx hb dX8_undoSet_92 hl (k := 7) rfl (by rw [ev4]; rfl) (by decide) rfl (fun ls hl => ?_)
              have h := nm_ap ev4 h
              refine lv_goto (tgt := 25) hx hb dX8_undoSet_95 (by decide) ?_
              exact ih x4 x5 x6 v4 o0 _ _ hP hD hS ls (lv_sub hl [1, 2, 3, 4, 5, 6, 7, 0] rfl) _ h K0
            · have h := if_f hc h
              refine lv_aload_n hx hb dX8_undoSet_66 rfl (lv_at hl 0 rfl) ?_
              refine va_get (D := D) (ci := 8) (v := .ref (a0 23)) (C := RX8) (T := TX8) (N := 27) hx hb hts hinX8 hown hK.1 hP 0 rfl rfl 22 (by decide) lkf61 (fun _ h9 => h9) rfl dX8_undoSet_67 ?_
              refine lv_iload hx hb dX8_undoSet_70 (lv_at hl 5 rfl) ?_
              refine lv_iload hx hb dX8_undoSet_72 (lv_at hl 7 rfl) ?_
              obtain ⟨hi5, h⟩ := gd_some h
              refine iast (j := x5.toNatClampNeg) (wn := (wX8 cA a0 (sA o0 22 x5.toNatClampNeg x7))) hx hb hK hP hD hS 18 rfl rfl (ck_in hi5) dX8_undoSet_74 rfl (fun H locs hP hD hS => ?_)
              obtain ⟨s6, es6⟩ : ∃ z, z = sA o0 22 x5.toNatClampNeg x7 := ⟨_, rfl⟩
              rw [← es6] at hP hD
              have h := nm_ap es6 h
              refine lv_iload hx hb dX8_undoSet_75 (lv_at hl 4 rfl) ?_
              refine lv_iconst (v := (1 : Int32)) hx hb dX8_undoSet_77 (by decide) ?_
              refine lv_iload hx hb dX8_undoSet_78 (lv_at hl 7 rfl) ?_
              refine lv_ishl hx hb dX8_undoSet_80 ?_
              refine lv_iconst (v := (-1 : Int32)) hx hb dX8_undoSet_81 (by decide) ?_
              refine lv_ixor hx hb dX8_undoSet_82 ?_
              refine lv_iand hx hb dX8_undoSet_83 ?_
              refine lv_topi (fun v7 ev7 => ?_)
              have h := nm_ap ev7 h
              refine lv_istore (lv' := [(4, .int v7), (0, .ref (a0 0)), (1, .int x1), (2, .int x2), (3, .int x3), (5, .int x5), (6, .int x6), (7, .int x7)]) hx hb dX8_undoSet_84 hl (by decide) rfl (fun ls hl => ?_)
              obtain ⟨v8, ev8⟩ : ∃ y : Int32, y = x5 + (1 : Int32) := ⟨_, rfl⟩
              refine lv_iinc (v := v8) (lv' := [(5, .int v8), (4, .int v7), (0, .ref (a0 0)), (1, .int x1), (2, .int x2), (3, .int x3), (6, .int x6), (7, .int x7)]) hx hb dX8_undoSet_86 hl (k := 5) rfl (by rw [ev8]; rfl) (by decide) rfl (fun ls hl => ?_)
              have h := nm_ap ev8 h
              refine lv_iconst (v := (1 : Int32)) hx hb dX8_undoSet_89 (by decide) ?_
              refine lv_istore (lv' := [(6, .int (1 : Int32)), (5, .int v8), (4, .int v7), (0, .ref (a0 0)), (1, .int x1), (2, .int x2), (3, .int x3), (7, .int x7)]) hx hb dX8_undoSet_90 hl (by decide) rfl (fun ls hl => ?_)
              obtain ⟨v9, ev9⟩ : ∃ y : Int32, y = x7 + (1 : Int32) := ⟨_, rfl⟩
              refine lv_iinc (v := v9) (lv' := [(7, .int v9), (6, .int (1 : Int32)), (5, .int v8), (4, .int v7), (0, .ref (a0 0)), (1, .int x1), (2, .int x2), (3, .int x3)]) hx hb dX8_undoSet_92 hl (k := 7) rfl (by rw [ev9]; rfl) (by decide) rfl (fun ls hl => ?_)
              have h := nm_ap ev9 h
              refine lv_goto (tgt := 25) hx hb dX8_undoSet_95 (by decide) ?_
              exact ih v7 v8 (1 : Int32) v9 s6 _ _ hP hD hS ls (lv_sub hl [4, 5, 6, 7, 3, 2, 1, 0] rfl) _ h K0
  have LP14 : ∀ (x1 : Int32) (x2 : Int32) (x3 : Int32) (n : Nat) (x4 : Int32) (x5 : Int32) (x6 : Int32) (o0 : Ob) (H : Heap) (locs : List Loc) (_ : va_P D vwCl (wX8 cA a0 o0) H) (_ : va_D A (wX8 cA a0 o0)) (_ : va_S A s.heap H locs) (ls : Array Slot) (_ : lv_has ls 8 [(0, .ref (a0 0)), (1, .int x1), (2, .int x2), (3, .int x3), (4, .int x4), (5, .int x5), (6, .int x6)]) (res : Int32 × Ob) (_ : L_X8_undoSet_14 x1 x2 x3 n x4 x5 x6 o0 = some res) (_ : (∀ (H : Heap) (locs : List Loc) (_ : va_P D vwCl (wX8 cA a0 res.2) H) (_ : va_D A (wX8 cA a0 res.2)) (_ : va_S A s.heap H locs) (ls : Array Slot), lv_has ls 8 [(5, .int res.1)] → W p l e rmX8_undoSet s m args below meth c H locs 0 0 Q (F0 m 101 ls []))), W p l e rmX8_undoSet s m args below meth c H locs 0 0 Q (F0 m 14 ls []) := by
    intro x1 x2 x3 n
    induction n with
    | zero =>
      intro x4 x5 x6 o0 H locs hP hD hS ls hl res h K0
      exact absurd h (fun q : (none : Option (Int32 × Ob)) = some res => by cases q)
    | succ n ih =>
      intro x4 x5 x6 o0 H locs hP hD hS ls hl res h K0
      have h : L_X8_undoSet_14_step x1 x2 x3 (L_X8_undoSet_14 x1 x2 x3 n) x4 x5 x6 o0 = some res := h
      unfold L_X8_undoSet_14_step at h
      refine lv_iload hx hb dX8_undoSet_14 (lv_at hl 6 rfl) ?_
      refine lv_if_eq (tgt := 101) hx hb dX8_undoSet_16 (by decide) (fun hc => ?_) (fun hc => ?_)
      · have h := if_t hc h
        cases h
        exact K0 _ _ hP hD hS _ (lv_sub hl [5] rfl)
      · have h := if_f hc h
        refine lv_iconst (v := (0 : Int32)) hx hb dX8_undoSet_19 (by decide) ?_
        refine lv_istore (lv' := [(6, .int (0 : Int32)), (0, .ref (a0 0)), (1, .int x1), (2, .int x2), (3, .int x3), (4, .int x4), (5, .int x5)]) hx hb dX8_undoSet_20 hl (by decide) rfl (fun ls hl => ?_)
        refine lv_iconst (v := (0 : Int32)) hx hb dX8_undoSet_22 (by decide) ?_
        refine lv_istore (lv' := [(7, .int (0 : Int32)), (6, .int (0 : Int32)), (0, .ref (a0 0)), (1, .int x1), (2, .int x2), (3, .int x3), (4, .int x4), (5, .int x5)]) hx hb dX8_undoSet_23 hl (by decide) rfl (fun ls hl => ?_)
        obtain ⟨z1, hz1, h⟩ := bd_some h
        refine LP25 x1 x2 x3 512 x4 x5 (0 : Int32) (0 : Int32) o0 _ _ hP hD hS ls (lv_sub hl [2, 3, 4, 5, 6, 7, 1, 0] rfl) _ hz1 ?_
        · intro H locs hP hD hS ls hl
          refine lv_goto (tgt := 14) hx hb dX8_undoSet_98 (by decide) ?_
          exact ih z1.1 z1.2.1 z1.2.2.1 z1.2.2.2 _ _ hP hD hS ls (lv_sub hl [0, 1, 2, 3, 4, 5, 6] rfl) _ h K0
  refine lv_aload_n hx hb dX8_undoSet_0 rfl (lv_at hl 0 rfl) ?_
  refine va_get (D := D) (ci := 8) (v := .ref (a0 12)) (C := RX8) (T := TX8) (N := 27) hx hb hts hinX8 hown hK.1 hP 0 rfl rfl 11 (by decide) lkf40 (fun _ h9 => h9) rfl dX8_undoSet_1 ?_
  refine lv_iconst (v := (0 : Int32)) hx hb dX8_undoSet_4 (by decide) ?_
  refine iald (q0 := 0) (t0 := 0) (j := 0) hx hb hK hP 11 rfl rfl (vp_in_iff.mpr (by decide)) dX8_undoSet_5 ?_
  refine lv_topi (fun v1 ev1 => ?_)
  have h := nm_ap ev1 h
  refine lv_istore (lv' := [(4, .int v1), (0, .ref (a0 0)), (1, .int x1), (2, .int x2), (3, .int x3)]) hx hb dX8_undoSet_6 hl (by decide) rfl (fun ls hl => ?_)
  refine lv_iconst (v := (0 : Int32)) hx hb dX8_undoSet_8 (by decide) ?_
  refine lv_istore (lv' := [(5, .int (0 : Int32)), (4, .int v1), (0, .ref (a0 0)), (1, .int x1), (2, .int x2), (3, .int x3)]) hx hb dX8_undoSet_9 hl (by decide) rfl (fun ls hl => ?_)
  refine lv_iconst (v := (1 : Int32)) hx hb dX8_undoSet_11 (by decide) ?_
  refine lv_istore (lv' := [(6, .int (1 : Int32)), (5, .int (0 : Int32)), (4, .int v1), (0, .ref (a0 0)), (1, .int x1), (2, .int x2), (3, .int x3)]) hx hb dX8_undoSet_12 hl (by decide) rfl (fun ls hl => ?_)
  obtain ⟨z2, hz2, h⟩ := bd_some h
  refine LP14 x1 x2 x3 512 v1 (0 : Int32) (1 : Int32) o0 _ _ hP hD hS ls (lv_sub hl [3, 4, 5, 6, 2, 1, 0] rfl) _ hz2 ?_
  · intro H locs hP hD hS ls hl
    refine lv_iload hx hb dX8_undoSet_101 (lv_at hl 0 rfl) ?_
    cases h
    exact hend _ _ _ _ hP hD hS dX8_undoSet_103
abbrev rmX8_least : Room := ({ frames := 4, cells := 0, slots := 0, locals := 99 } : Room)
set_option maxHeartbeats 4000000 in
set_option maxRecDepth 100000 in
theorem c_X8_least (l : Launch) (D : va_G) (cA : ClassId) (a0 : (Nat → Nat)) (o0 : Ob) (x1 : Int32) (r : Int32) (o0_ : Ob) (h : f_X8_least o0 x1 = some (r, o0_)) : ConW l yX8_least wsX8_least rmX8_least D cA [.ref (a0 0), .int x1] (wX8 cA a0 o0) r (wX8 cA a0 o0_) := by
  refine ConW.enter (cc := cX8_least) (maxL := 5) (by decide) rfl (Nat.le_of_ble_eq_true rfl) ?_
  intro p e s m args below meth c Q A hx hb hml hown hts hK hP hD hA hend ls hl
  have hS : va_S A s.heap s.heap [] := va_S.rf
  have hl : lv_has ls 5 [(0, .ref (a0 0)), (1, .int x1)] := hl
  unfold f_X8_least at h
  have lkf22 := hts (.fieldLink RX8 22 "TiedToTownModel" "many" "[I") (List.mem_of_getElem? (i := 1) rfl)
  have hinX8 : ∀ w ∈ wsX80, w ∈ wsX8_least := fun w h => List.mem_cons_of_mem _ (List.mem_append_right _ h)
  have lkf40 := hts (.fieldLink RX8 40 "TiedToTownModel" "tied" "[I") (List.mem_of_getElem? (i := 2) rfl)
  have lkf16 := hts (.fieldLink RX8 16 "TiedToTownModel" "alive" "[I") (List.mem_of_getElem? (i := 3) rfl)
  have lkf43 := hts (.fieldLink RX8 43 "TiedToTownModel" "day" "[I") (List.mem_of_getElem? (i := 4) rfl)
  have LP5 : ∀ (x1 : Int32) (n : Nat) (x2 : Int32) (x3 : Int32) (o0 : Ob) (H : Heap) (locs : List Loc) (_ : va_P D vwCl (wX8 cA a0 o0) H) (_ : va_D A (wX8 cA a0 o0)) (_ : va_S A s.heap H locs) (ls : Array Slot) (_ : lv_has ls 5 [(0, .ref (a0 0)), (1, .int x1), (2, .int x2), (3, .int x3)]) (res : Int32 × Ob) (_ : L_X8_least_5 x1 n x2 x3 o0 = some res) (_ : (∀ (H : Heap) (locs : List Loc) (_ : va_P D vwCl (wX8 cA a0 res.2) H) (_ : va_D A (wX8 cA a0 res.2)) (_ : va_S A s.heap H locs) (ls : Array Slot), lv_has ls 5 [(2, .int res.1)] → W p l e rmX8_least s m args below meth c H locs 0 0 Q (F0 m 101 ls []))), W p l e rmX8_least s m args below meth c H locs 0 0 Q (F0 m 5 ls []) := by
    intro x1 n
    induction n with
    | zero =>
      intro x2 x3 o0 H locs hP hD hS ls hl res h K0
      exact absurd h (fun q : (none : Option (Int32 × Ob)) = some res => by cases q)
    | succ n ih =>
      intro x2 x3 o0 H locs hP hD hS ls hl res h K0
      have h : L_X8_least_5_step x1 (L_X8_least_5 x1 n) x2 x3 o0 = some res := h
      unfold L_X8_least_5_step at h
      have JP5_58 : ∀ (k0 : Int32) (x2 : Int32) (x3 : Int32) (o0 : Ob) (H : Heap) (locs : List Loc) (_ : va_P D vwCl (wX8 cA a0 o0) H) (_ : va_D A (wX8 cA a0 o0)) (_ : va_S A s.heap H locs) (ls : Array Slot) (_ : lv_has ls 5 [(0, .ref (a0 0)), (1, .int x1), (2, .int x2), (3, .int x3)]) (_ : J_X8_least_58l5 (L_X8_least_5 x1 n) k0 x1 x2 x3 o0 = some res), W p l e rmX8_least s m args below meth c H locs 0 0 Q (F0 m 58 ls [.int k0]) := by
        intro k0 x2 x3 o0 H locs hP hD hS ls hl h
        unfold J_X8_least_58l5 at h
        refine lv_istore (lv' := [(4, .int k0), (0, .ref (a0 0)), (1, .int x1), (2, .int x2), (3, .int x3)]) hx hb dX8_least_58 hl (by decide) rfl (fun ls hl => ?_)
        refine lv_iload hx hb dX8_least_60 (lv_at hl 0 rfl) ?_
        refine lv_if_eq (tgt := 93) hx hb dX8_least_62 (by decide) (fun hc => ?_) (fun hc => ?_)
        · have h := if_t hc h
          refine lv_iload_n hx hb dX8_least_93 rfl (lv_at hl 3 rfl) ?_
          refine lv_istore_n (lv' := [(2, .int x2), (4, .int k0), (0, .ref (a0 0)), (1, .int x1), (3, .int x3)]) hx hb dX8_least_94 rfl hl (by decide) rfl (fun ls hl => ?_)
          obtain ⟨v1, ev1⟩ : ∃ y : Int32, y = x3 + (1 : Int32) := ⟨_, rfl⟩
          refine lv_iinc (v := v1) (lv' := [(3, .int v1), (2, .int x2), (4, .int k0), (0, .ref (a0 0)), (1, .int x1)]) hx hb dX8_least_95 hl (k := 4) rfl (by rw [ev1]; rfl) (by decide) rfl (fun ls hl => ?_)
          have h := nm_ap ev1 h
          refine lv_goto (tgt := 5) hx hb dX8_least_98 (by decide) ?_
          exact ih x2 v1 o0 _ _ hP hD hS ls (lv_sub hl [3, 4, 1, 0] rfl) _ h K0
        · have h := if_f hc h
          refine lv_aload_n hx hb dX8_least_65 rfl (lv_at hl 1 rfl) ?_
          refine lv_iload_n hx hb dX8_least_66 rfl (lv_at hl 4 rfl) ?_
          refine lv_aload_n hx hb dX8_least_67 rfl (lv_at hl 1 rfl) ?_
          refine va_get (D := D) (ci := 8) (v := .ref (a0 4)) (C := RX8) (T := TX8) (N := 27) hx hb hts hinX8 hown hK.1 hP 0 rfl rfl 3 (by decide) lkf16 (fun _ h9 => h9) rfl dX8_least_68 ?_
          refine lv_iconst (v := (0 : Int32)) hx hb dX8_least_71 (by decide) ?_
          refine iald (q0 := 0) (t0 := 0) (j := 0) hx hb hK hP 3 rfl rfl (vp_in_iff.mpr (by decide)) dX8_least_72 ?_
          refine lv_aload_n hx hb dX8_least_73 rfl (lv_at hl 1 rfl) ?_
          refine va_get (D := D) (ci := 8) (v := .ref (a0 13)) (C := RX8) (T := TX8) (N := 27) hx hb hts hinX8 hown hK.1 hP 0 rfl rfl 12 (by decide) lkf43 (fun _ h9 => h9) rfl dX8_least_74 ?_
          refine lv_iconst (v := (0 : Int32)) hx hb dX8_least_77 (by decide) ?_
          refine iald (q0 := 0) (t0 := 0) (j := 0) hx hb hK hP 12 rfl rfl (vp_in_iff.mpr (by decide)) dX8_least_78 ?_
          obtain ⟨z2, hz2, h⟩ := bd_some h
          refine cW_V (As := [.int x3, .int (o0.2 3 0), .int (o0.2 12 0)]) (rest := []) (wn := (wX8 cA a0 z2.2)) ⟨hx, hb, hml, hown, hts⟩ (c_X8_undoSet l D cA a0 o0 x3 (o0.2 3 0) (o0.2 12 0) z2.1 z2.2 hz2) (cwV 3 hts gX8_least_X8_undoSet rfl rfl rfl hd_X8_undoSet ⟨(Nat.le_of_ble_eq_true rfl), (Nat.le_of_ble_eq_true rfl)⟩) (recvK hK hP 0 8 rfl rfl) hK hP hD hS hA [0, 1, 2, 3, 4, 5, 6, 7, 8, 9, 10, 11, 12, 13, 14, 15, 16, 17, 18, 19, 20, 21, 22] [] [0, 1, 2, 3, 4, 5, 6, 7, 8, 9, 10, 11, 12, 13, 14, 15, 16, 17, 18, 19, 20, 21, 22] rfl rfl rfl rfl rfl rfl rfl rfl hl.1 rfl (Nat.le_of_ble_eq_true rfl) dX8_least_79 ⟨(Nat.le_of_ble_eq_true rfl), (Nat.le_of_ble_eq_true rfl)⟩ (fun H locs hP hD hS => ?_)
          refine lv_iload_n hx hb dX8_least_82 rfl (lv_at hl 4 rfl) ?_
          obtain ⟨z3, hz3, h⟩ := bd_some h
          refine cR_S (As := [.int x3]) (rest := [.int z2.1]) ⟨hx, hb, hml, hown, hts⟩ (c_X8_bits l D cA  x3 z3 hz3) (va_cwS 1 hts gX8_least_X8_bits rfl rfl rfl hd_X8_bits.2 ⟨(Nat.le_of_ble_eq_true rfl), (Nat.le_of_ble_eq_true rfl)⟩) hK hP [] rfl rfl hl.1 rfl (Nat.le_of_ble_eq_true rfl) dX8_least_83 ⟨(Nat.le_of_ble_eq_true rfl), (Nat.le_of_ble_eq_true rfl)⟩ ?_
          refine lv_icmp_ne (tgt := 93) hx hb dX8_least_86 (by decide) (fun hc => ?_) (fun hc => ?_)
          · have h := if_f hc h
            refine lv_iload_n hx hb dX8_least_93 rfl (lv_at hl 3 rfl) ?_
            refine lv_istore_n (lv' := [(2, .int x2), (4, .int k0), (0, .ref (a0 0)), (1, .int x1), (3, .int x3)]) hx hb dX8_least_94 rfl hl (by decide) rfl (fun ls hl => ?_)
            obtain ⟨v4, ev4⟩ : ∃ y : Int32, y = x3 + (1 : Int32) := ⟨_, rfl⟩
            refine lv_iinc (v := v4) (lv' := [(3, .int v4), (2, .int x2), (4, .int k0), (0, .ref (a0 0)), (1, .int x1)]) hx hb dX8_least_95 hl (k := 4) rfl (by rw [ev4]; rfl) (by decide) rfl (fun ls hl => ?_)
            have h := nm_ap ev4 h
            refine lv_goto (tgt := 5) hx hb dX8_least_98 (by decide) ?_
            exact ih x2 v4 z2.2 _ _ hP hD hS ls (lv_sub hl [3, 4, 1, 0] rfl) _ h K0
          · have h := if_t hc h
            refine lv_iload_n hx hb dX8_least_89 rfl (lv_at hl 4 rfl) ?_
            refine lv_goto (tgt := 94) hx hb dX8_least_90 (by decide) ?_
            refine lv_istore_n (lv' := [(2, .int x3), (4, .int k0), (0, .ref (a0 0)), (1, .int x1), (3, .int x3)]) hx hb dX8_least_94 rfl hl (by decide) rfl (fun ls hl => ?_)
            obtain ⟨v5, ev5⟩ : ∃ y : Int32, y = x3 + (1 : Int32) := ⟨_, rfl⟩
            refine lv_iinc (v := v5) (lv' := [(3, .int v5), (2, .int x3), (4, .int k0), (0, .ref (a0 0)), (1, .int x1)]) hx hb dX8_least_95 hl (k := 4) rfl (by rw [ev5]; rfl) (by decide) rfl (fun ls hl => ?_)
            have h := nm_ap ev5 h
            refine lv_goto (tgt := 5) hx hb dX8_least_98 (by decide) ?_
            exact ih x3 v5 z2.2 _ _ hP hD hS ls (lv_sub hl [3, 4, 1, 0] rfl) _ h K0
      have JP5_57 : ∀ (x2 : Int32) (x3 : Int32) (o0 : Ob) (H : Heap) (locs : List Loc) (_ : va_P D vwCl (wX8 cA a0 o0) H) (_ : va_D A (wX8 cA a0 o0)) (_ : va_S A s.heap H locs) (ls : Array Slot) (_ : lv_has ls 5 [(0, .ref (a0 0)), (1, .int x1), (2, .int x2), (3, .int x3)]) (_ : J_X8_least_57l5 (L_X8_least_5 x1 n) x1 x2 x3 o0 = some res), W p l e rmX8_least s m args below meth c H locs 0 0 Q (F0 m 57 ls []) := by
        intro x2 x3 o0 H locs hP hD hS ls hl h
        unfold J_X8_least_57l5 at h
        refine lv_iconst (v := (0 : Int32)) hx hb dX8_least_57 (by decide) ?_
        exact JP5_58 (0 : Int32) x2 x3 o0 _ _ hP hD hS ls (lv_sub hl [0, 1, 2, 3] rfl) h
      have JP5_53 : ∀ (x2 : Int32) (x3 : Int32) (o0 : Ob) (H : Heap) (locs : List Loc) (_ : va_P D vwCl (wX8 cA a0 o0) H) (_ : va_D A (wX8 cA a0 o0)) (_ : va_S A s.heap H locs) (ls : Array Slot) (_ : lv_has ls 5 [(0, .ref (a0 0)), (1, .int x1), (2, .int x2), (3, .int x3)]) (_ : J_X8_least_53l5 (L_X8_least_5 x1 n) x1 x2 x3 o0 = some res), W p l e rmX8_least s m args below meth c H locs 0 0 Q (F0 m 53 ls []) := by
        intro x2 x3 o0 H locs hP hD hS ls hl h
        unfold J_X8_least_53l5 at h
        refine lv_iconst (v := (1 : Int32)) hx hb dX8_least_53 (by decide) ?_
        refine lv_goto (tgt := 58) hx hb dX8_least_54 (by decide) ?_
        exact JP5_58 (1 : Int32) x2 x3 o0 _ _ hP hD hS ls (lv_sub hl [0, 1, 2, 3] rfl) h
      refine lv_iload_n hx hb dX8_least_5 rfl (lv_at hl 3 rfl) ?_
      refine lv_iconst (v := (1 : Int32)) hx hb dX8_least_6 (by decide) ?_
      refine lv_aload_n hx hb dX8_least_7 rfl (lv_at hl 0 rfl) ?_
      refine va_get (D := D) (ci := 8) (v := .ref (a0 6)) (C := RX8) (T := TX8) (N := 27) hx hb hts hinX8 hown hK.1 hP 0 rfl rfl 5 (by decide) lkf22 (fun _ h9 => h9) rfl dX8_least_8 ?_
      refine lv_iconst (v := (0 : Int32)) hx hb dX8_least_11 (by decide) ?_
      refine iald (q0 := 0) (t0 := 0) (j := 0) hx hb hK hP 5 rfl rfl (vp_in_iff.mpr (by decide)) dX8_least_12 ?_
      refine lv_ishl hx hb dX8_least_13 ?_
      refine lv_icmp_ge (tgt := 101) hx hb dX8_least_14 (by decide) (fun hc => ?_) (fun hc => ?_)
      · have h := if_t hc h
        cases h
        exact K0 _ _ hP hD hS _ (lv_sub hl [2] rfl)
      · have h := if_f hc h
        refine lv_iload_n hx hb dX8_least_17 rfl (lv_at hl 3 rfl) ?_
        refine lv_aload_n hx hb dX8_least_18 rfl (lv_at hl 0 rfl) ?_
        refine va_get (D := D) (ci := 8) (v := .ref (a0 12)) (C := RX8) (T := TX8) (N := 27) hx hb hts hinX8 hown hK.1 hP 0 rfl rfl 11 (by decide) lkf40 (fun _ h9 => h9) rfl dX8_least_19 ?_
        refine lv_iconst (v := (0 : Int32)) hx hb dX8_least_22 (by decide) ?_
        refine iald (q0 := 0) (t0 := 0) (j := 0) hx hb hK hP 11 rfl rfl (vp_in_iff.mpr (by decide)) dX8_least_23 ?_
        refine lv_iconst (v := (-1 : Int32)) hx hb dX8_least_24 (by decide) ?_
        refine lv_ixor hx hb dX8_least_25 ?_
        refine lv_iand hx hb dX8_least_26 ?_
        refine lv_if_ne (tgt := 57) hx hb dX8_least_27 (by decide) (fun hc => ?_) (fun hc => ?_)
        · have h := if_f hc h
          exact JP5_57 x2 x3 o0 _ _ hP hD hS ls (lv_sub hl [0, 1, 2, 3] rfl) h
        · have h := if_t hc h
          refine lv_iload_n hx hb dX8_least_30 rfl (lv_at hl 1 rfl) ?_
          refine lv_iload_n hx hb dX8_least_31 rfl (lv_at hl 3 rfl) ?_
          refine lv_iconst (v := (-1 : Int32)) hx hb dX8_least_32 (by decide) ?_
          refine lv_ixor hx hb dX8_least_33 ?_
          refine lv_iand hx hb dX8_least_34 ?_
          refine lv_if_ne (tgt := 57) hx hb dX8_least_35 (by decide) (fun hc => ?_) (fun hc => ?_)
          · have h := if_f hc h
            exact JP5_57 x2 x3 o0 _ _ hP hD hS ls (lv_sub hl [0, 1, 2, 3] rfl) h
          · have h := if_t hc h
            refine lv_iload_n hx hb dX8_least_38 rfl (lv_at hl 2 rfl) ?_
            refine lv_if_lt (tgt := 53) hx hb dX8_least_39 (by decide) (fun hc => ?_) (fun hc => ?_)
            · have h := if_t hc h
              exact JP5_53 x2 x3 o0 _ _ hP hD hS ls (lv_sub hl [0, 1, 2, 3] rfl) h
            · have h := if_f hc h
              refine lv_iload_n hx hb dX8_least_42 rfl (lv_at hl 3 rfl) ?_
              obtain ⟨z1, hz1, h⟩ := bd_some h
              refine cR_S (As := [.int x3]) (rest := []) ⟨hx, hb, hml, hown, hts⟩ (c_X8_bits l D cA  x3 z1 hz1) (va_cwS 1 hts gX8_least_X8_bits rfl rfl rfl hd_X8_bits.2 ⟨(Nat.le_of_ble_eq_true rfl), (Nat.le_of_ble_eq_true rfl)⟩) hK hP [] rfl rfl hl.1 rfl (Nat.le_of_ble_eq_true rfl) dX8_least_43 ⟨(Nat.le_of_ble_eq_true rfl), (Nat.le_of_ble_eq_true rfl)⟩ ?_
              refine lv_iload_n hx hb dX8_least_46 rfl (lv_at hl 2 rfl) ?_
              obtain ⟨z2, hz2, h⟩ := bd_some h
              refine cR_S (As := [.int x2]) (rest := [.int z1]) ⟨hx, hb, hml, hown, hts⟩ (c_X8_bits l D cA  x2 z2 hz2) (va_cwS 1 hts gX8_least_X8_bits rfl rfl rfl hd_X8_bits.2 ⟨(Nat.le_of_ble_eq_true rfl), (Nat.le_of_ble_eq_true rfl)⟩) hK hP [] rfl rfl hl.1 rfl (Nat.le_of_ble_eq_true rfl) dX8_least_47 ⟨(Nat.le_of_ble_eq_true rfl), (Nat.le_of_ble_eq_true rfl)⟩ ?_
              refine lv_icmp_ge (tgt := 57) hx hb dX8_least_50 (by decide) (fun hc => ?_) (fun hc => ?_)
              · have h := if_t hc h
                exact JP5_57 x2 x3 o0 _ _ hP hD hS ls (lv_sub hl [0, 1, 2, 3] rfl) h
              · have h := if_f hc h
                exact JP5_53 x2 x3 o0 _ _ hP hD hS ls (lv_sub hl [0, 1, 2, 3] rfl) h
  refine lv_bipush (v := (-4 : Int32)) hx hb dX8_least_0 (by decide) ?_
  refine lv_istore_n (lv' := [(2, .int (-4 : Int32)), (0, .ref (a0 0)), (1, .int x1)]) hx hb dX8_least_2 rfl hl (by decide) rfl (fun ls hl => ?_)
  refine lv_iconst (v := (0 : Int32)) hx hb dX8_least_3 (by decide) ?_
  refine lv_istore_n (lv' := [(3, .int (0 : Int32)), (2, .int (-4 : Int32)), (0, .ref (a0 0)), (1, .int x1)]) hx hb dX8_least_4 rfl hl (by decide) rfl (fun ls hl => ?_)
  obtain ⟨z1, hz1, h⟩ := bd_some h
  refine LP5 x1 512 (-4 : Int32) (0 : Int32) o0 _ _ hP hD hS ls (lv_sub hl [2, 3, 1, 0] rfl) _ hz1 ?_
  · intro H locs hP hD hS ls hl
    refine lv_iload_n hx hb dX8_least_101 rfl (lv_at hl 0 rfl) ?_
    cases h
    exact hend _ _ _ _ hP hD hS dX8_least_102
abbrev rmX8_loosen : Room := ({ frames := 5, cells := 0, slots := 0, locals := 123 } : Room)
set_option maxHeartbeats 4000000 in
set_option maxRecDepth 100000 in
theorem c_X8_loosen (l : Launch) (D : va_G) (cA : ClassId) (a0 : (Nat → Nat)) (o0 : Ob) (x1 : Int32) (r : Int32) (o0_ : Ob) (h : f_X8_loosen o0 x1 = some (r, o0_)) : ConW l yX8_loosen wsX8_loosen rmX8_loosen D cA [.ref (a0 0), .int x1] (wX8 cA a0 o0) r (wX8 cA a0 o0_) := by
  refine ConW.enter (cc := cX8_loosen) (maxL := 3) (by decide) rfl (Nat.le_of_ble_eq_true rfl) ?_
  intro p e s m args below meth c Q A hx hb hml hown hts hK hP hD hA hend ls hl
  have hS : va_S A s.heap s.heap [] := va_S.rf
  have hl : lv_has ls 3 [(0, .ref (a0 0)), (1, .int x1)] := hl
  unfold f_X8_loosen at h
  have lkf40 := hts (.fieldLink RX8 40 "TiedToTownModel" "tied" "[I") (List.mem_of_getElem? (i := 1) rfl)
  have hinX8 : ∀ w ∈ wsX80, w ∈ wsX8_loosen := fun w h => List.mem_cons_of_mem _ (List.mem_append_right _ h)
  refine lv_aload_n hx hb dX8_loosen_0 rfl (lv_at hl 0 rfl) ?_
  refine lv_iload_n hx hb dX8_loosen_1 rfl (lv_at hl 1 rfl) ?_
  obtain ⟨z1, hz1, h⟩ := bd_some h
  refine cR_V (As := [.int x1]) (rest := []) ⟨hx, hb, hml, hown, hts⟩ (c_X8_isThere l D cA a0 o0 x1 z1 hz1) (cwV 1 hts gX8_loosen_X8_isThere rfl rfl rfl hd_X8_isThere ⟨(Nat.le_of_ble_eq_true rfl), (Nat.le_of_ble_eq_true rfl)⟩) (recvK hK hP 0 8 rfl rfl) hK hP [0, 1, 2, 3, 4, 5, 6, 7, 8, 9, 10, 11, 12, 13, 14, 15, 16, 17, 18, 19, 20, 21, 22] rfl rfl hl.1 rfl (Nat.le_of_ble_eq_true rfl) dX8_loosen_2 ⟨(Nat.le_of_ble_eq_true rfl), (Nat.le_of_ble_eq_true rfl)⟩ ?_
  refine lv_if_ne (tgt := 10) hx hb dX8_loosen_5 (by decide) (fun hc => ?_) (fun hc => ?_)
  · have h := if_f hc h
    refine lv_aload_n hx hb dX8_loosen_10 rfl (lv_at hl 0 rfl) ?_
    refine va_get (D := D) (ci := 8) (v := .ref (a0 12)) (C := RX8) (T := TX8) (N := 27) hx hb hts hinX8 hown hK.1 hP 0 rfl rfl 11 (by decide) lkf40 (fun _ h9 => h9) rfl dX8_loosen_11 ?_
    refine lv_iconst (v := (0 : Int32)) hx hb dX8_loosen_14 (by decide) ?_
    refine iald (q0 := 0) (t0 := 0) (j := 0) hx hb hK hP 11 rfl rfl (vp_in_iff.mpr (by decide)) dX8_loosen_15 ?_
    refine lv_iload_n hx hb dX8_loosen_16 rfl (lv_at hl 1 rfl) ?_
    obtain ⟨z2, hz2, h⟩ := bd_some h
    refine cR_S (As := [.int (o0.2 11 0), .int x1]) (rest := []) ⟨hx, hb, hml, hown, hts⟩ (c_X8_has l D cA  (o0.2 11 0) x1 z2 hz2) (va_cwS 2 hts gX8_loosen_X8_has rfl rfl rfl hd_X8_has.2 ⟨(Nat.le_of_ble_eq_true rfl), (Nat.le_of_ble_eq_true rfl)⟩) hK hP [] rfl rfl hl.1 rfl (Nat.le_of_ble_eq_true rfl) dX8_loosen_17 ⟨(Nat.le_of_ble_eq_true rfl), (Nat.le_of_ble_eq_true rfl)⟩ ?_
    refine lv_if_ne (tgt := 26) hx hb dX8_loosen_20 (by decide) (fun hc => ?_) (fun hc => ?_)
    · have h := if_f hc h
      refine lv_aload_n hx hb dX8_loosen_26 rfl (lv_at hl 0 rfl) ?_
      refine lv_iconst (v := (1 : Int32)) hx hb dX8_loosen_27 (by decide) ?_
      refine lv_iload_n hx hb dX8_loosen_28 rfl (lv_at hl 1 rfl) ?_
      refine lv_ishl hx hb dX8_loosen_29 ?_
      obtain ⟨z3, hz3, h⟩ := bd_some h
      refine cW_V (As := [.int ((1 : Int32) <<< (x1 &&& 31))]) (rest := []) (wn := (wX8 cA a0 z3.2)) ⟨hx, hb, hml, hown, hts⟩ (c_X8_least l D cA a0 o0 ((1 : Int32) <<< (x1 &&& 31)) z3.1 z3.2 hz3) (cwV 1 hts gX8_loosen_X8_least rfl rfl rfl hd_X8_least ⟨(Nat.le_of_ble_eq_true rfl), (Nat.le_of_ble_eq_true rfl)⟩) (recvK hK hP 0 8 rfl rfl) hK hP hD hS hA [0, 1, 2, 3, 4, 5, 6, 7, 8, 9, 10, 11, 12, 13, 14, 15, 16, 17, 18, 19, 20, 21, 22] [] [0, 1, 2, 3, 4, 5, 6, 7, 8, 9, 10, 11, 12, 13, 14, 15, 16, 17, 18, 19, 20, 21, 22] rfl rfl rfl rfl rfl rfl rfl rfl hl.1 rfl (Nat.le_of_ble_eq_true rfl) dX8_loosen_30 ⟨(Nat.le_of_ble_eq_true rfl), (Nat.le_of_ble_eq_true rfl)⟩ (fun H locs hP hD hS => ?_)
      refine lv_topi (fun v4 ev4 => ?_)
      have h := nm_ap ev4 h
      refine lv_istore_n (lv' := [(2, .int v4), (0, .ref (a0 0)), (1, .int x1)]) hx hb dX8_loosen_33 rfl hl (by decide) rfl (fun ls hl => ?_)
      refine lv_iload_n hx hb dX8_loosen_34 rfl (lv_at hl 0 rfl) ?_
      refine lv_if_ge (tgt := 43) hx hb dX8_loosen_35 (by decide) (fun hc => ?_) (fun hc => ?_)
      · have h := if_t hc h
        refine lv_iload_n hx hb dX8_loosen_43 rfl (lv_at hl 0 rfl) ?_
        refine lv_iconst (v := (1 : Int32)) hx hb dX8_loosen_44 (by decide) ?_
        refine lv_iload_n hx hb dX8_loosen_45 rfl (lv_at hl 2 rfl) ?_
        refine lv_ishl hx hb dX8_loosen_46 ?_
        refine lv_iconst (v := (-1 : Int32)) hx hb dX8_loosen_47 (by decide) ?_
        refine lv_ixor hx hb dX8_loosen_48 ?_
        refine lv_iand hx hb dX8_loosen_49 ?_
        cases h
        exact hend _ _ _ _ hP hD hS dX8_loosen_50
      · have h := if_f hc h
        refine lv_bipush (v := (-4 : Int32)) hx hb dX8_loosen_38 (by decide) ?_
        refine lv_goto (tgt := 50) hx hb dX8_loosen_40 (by decide) ?_
        cases h
        exact hend _ _ _ _ hP hD hS dX8_loosen_50
    · have h := if_t hc h
      refine lv_bipush (v := (-2 : Int32)) hx hb dX8_loosen_23 (by decide) ?_
      cases h
      exact hend _ _ _ _ hP hD hS dX8_loosen_25
  · have h := if_t hc h
    refine lv_iconst (v := (-1 : Int32)) hx hb dX8_loosen_8 (by decide) ?_
    cases h
    exact hend _ _ _ _ hP hD hS dX8_loosen_9
abbrev rmX8_pay : Room := ({ frames := 5, cells := 0, slots := 0, locals := 123 } : Room)
set_option maxHeartbeats 4000000 in
set_option maxRecDepth 100000 in
theorem c_X8_pay (l : Launch) (D : va_G) (cA : ClassId) (a0 : (Nat → Nat)) (o0 : Ob) (x1 : Int32) (r : Int32) (o0_ : Ob) (h : f_X8_pay o0 x1 = some (r, o0_)) : ConW l yX8_pay wsX8_pay rmX8_pay D cA [.ref (a0 0), .int x1] (wX8 cA a0 o0) r (wX8 cA a0 o0_) := by
  refine ConW.enter (cc := cX8_pay) (maxL := 4) (by decide) rfl (Nat.le_of_ble_eq_true rfl) ?_
  intro p e s m args below meth c Q A hx hb hml hown hts hK hP hD hA hend ls hl
  have hS : va_S A s.heap s.heap [] := va_S.rf
  have hl : lv_has ls 4 [(0, .ref (a0 0)), (1, .int x1)] := hl
  unfold f_X8_pay at h
  have lkf22 := hts (.fieldLink RX8 22 "TiedToTownModel" "many" "[I") (List.mem_of_getElem? (i := 1) rfl)
  have hinX8 : ∀ w ∈ wsX80, w ∈ wsX8_pay := fun w h => List.mem_cons_of_mem _ (List.mem_append_right _ h)
  have lkf40 := hts (.fieldLink RX8 40 "TiedToTownModel" "tied" "[I") (List.mem_of_getElem? (i := 2) rfl)
  have lkf34 := hts (.fieldLink RX8 34 "TiedToTownModel" "due" "[I") (List.mem_of_getElem? (i := 3) rfl)
  have lkf43 := hts (.fieldLink RX8 43 "TiedToTownModel" "day" "[I") (List.mem_of_getElem? (i := 4) rfl)
  have lkf16 := hts (.fieldLink RX8 16 "TiedToTownModel" "alive" "[I") (List.mem_of_getElem? (i := 5) rfl)
  have lkf61 := hts (.fieldLink RX8 61 "TiedToTownModel" "turn" "[I") (List.mem_of_getElem? (i := 6) rfl)
  have LP11 : ∀ (x1 : Int32) (o0 : Ob) (n : Nat) (x2 : Int32) (x3 : Int32) (H : Heap) (locs : List Loc) (_ : va_P D vwCl (wX8 cA a0 o0) H) (_ : va_D A (wX8 cA a0 o0)) (_ : va_S A s.heap H locs) (ls : Array Slot) (_ : lv_has ls 4 [(0, .ref (a0 0)), (1, .int x1), (2, .int x2), (3, .int x3)]) (res : Int32) (_ : L_X8_pay_11 x1 o0 n x2 x3 = some res) (_ : (∀ (H : Heap) (locs : List Loc) (_ : va_P D vwCl (wX8 cA a0 o0) H) (_ : va_D A (wX8 cA a0 o0)) (_ : va_S A s.heap H locs) (ls : Array Slot), lv_has ls 4 [(0, .ref (a0 0)), (1, .int x1), (2, .int res)] → W p l e rmX8_pay s m args below meth c H locs 0 0 Q (F0 m 65 ls []))), W p l e rmX8_pay s m args below meth c H locs 0 0 Q (F0 m 11 ls []) := by
    intro x1 o0 n
    induction n with
    | zero =>
      intro x2 x3 H locs hP hD hS ls hl res h K0
      exact absurd h (fun q : (none : Option (Int32)) = some res => by cases q)
    | succ n ih =>
      intro x2 x3 H locs hP hD hS ls hl res h K0
      have h : L_X8_pay_11_step x1 o0 (L_X8_pay_11 x1 o0 n) x2 x3 = some res := h
      unfold L_X8_pay_11_step at h
      refine lv_iload_n hx hb dX8_pay_11 rfl (lv_at hl 3 rfl) ?_
      refine lv_aload_n hx hb dX8_pay_12 rfl (lv_at hl 0 rfl) ?_
      refine va_get (D := D) (ci := 8) (v := .ref (a0 6)) (C := RX8) (T := TX8) (N := 27) hx hb hts hinX8 hown hK.1 hP 0 rfl rfl 5 (by decide) lkf22 (fun _ h9 => h9) rfl dX8_pay_13 ?_
      refine lv_iconst (v := (0 : Int32)) hx hb dX8_pay_16 (by decide) ?_
      refine iald (q0 := 0) (t0 := 0) (j := 0) hx hb hK hP 5 rfl rfl (vp_in_iff.mpr (by decide)) dX8_pay_17 ?_
      refine lv_icmp_ge (tgt := 65) hx hb dX8_pay_18 (by decide) (fun hc => ?_) (fun hc => ?_)
      · have h := if_t hc h
        cases h
        exact K0 _ _ hP hD hS _ (lv_sub hl [0, 1, 2] rfl)
      · have h := if_f hc h
        refine lv_iload_n hx hb dX8_pay_21 rfl (lv_at hl 2 rfl) ?_
        refine lv_aload_n hx hb dX8_pay_22 rfl (lv_at hl 0 rfl) ?_
        refine va_get (D := D) (ci := 8) (v := .ref (a0 12)) (C := RX8) (T := TX8) (N := 27) hx hb hts hinX8 hown hK.1 hP 0 rfl rfl 11 (by decide) lkf40 (fun _ h9 => h9) rfl dX8_pay_23 ?_
        refine lv_iconst (v := (0 : Int32)) hx hb dX8_pay_26 (by decide) ?_
        refine iald (q0 := 0) (t0 := 0) (j := 0) hx hb hK hP 11 rfl rfl (vp_in_iff.mpr (by decide)) dX8_pay_27 ?_
        refine lv_iload_n hx hb dX8_pay_28 rfl (lv_at hl 3 rfl) ?_
        obtain ⟨z1, hz1, h⟩ := bd_some h
        refine cR_S (As := [.int (o0.2 11 0), .int x3]) (rest := [.int x2]) ⟨hx, hb, hml, hown, hts⟩ (c_X8_has l D cA  (o0.2 11 0) x3 z1 hz1) (va_cwS 2 hts gX8_pay_X8_has rfl rfl rfl hd_X8_has.2 ⟨(Nat.le_of_ble_eq_true rfl), (Nat.le_of_ble_eq_true rfl)⟩) hK hP [] rfl rfl hl.1 rfl (Nat.le_of_ble_eq_true rfl) dX8_pay_29 ⟨(Nat.le_of_ble_eq_true rfl), (Nat.le_of_ble_eq_true rfl)⟩ ?_
        refine lv_if_eq (tgt := 56) hx hb dX8_pay_32 (by decide) (fun hc => ?_) (fun hc => ?_)
        · have h := if_t hc h
          refine lv_iconst (v := (0 : Int32)) hx hb dX8_pay_56 (by decide) ?_
          refine lv_ior hx hb dX8_pay_57 ?_
          refine lv_topi (fun v2 ev2 => ?_)
          have h := nm_ap ev2 h
          refine lv_istore_n (lv' := [(2, .int v2), (0, .ref (a0 0)), (1, .int x1), (3, .int x3)]) hx hb dX8_pay_58 rfl hl (by decide) rfl (fun ls hl => ?_)
          obtain ⟨v3, ev3⟩ : ∃ y : Int32, y = x3 + (1 : Int32) := ⟨_, rfl⟩
          refine lv_iinc (v := v3) (lv' := [(3, .int v3), (2, .int v2), (0, .ref (a0 0)), (1, .int x1)]) hx hb dX8_pay_59 hl (k := 3) rfl (by rw [ev3]; rfl) (by decide) rfl (fun ls hl => ?_)
          have h := nm_ap ev3 h
          refine lv_goto (tgt := 11) hx hb dX8_pay_62 (by decide) ?_
          exact ih v2 v3 _ _ hP hD hS ls (lv_sub hl [2, 3, 1, 0] rfl) _ h K0
        · have h := if_f hc h
          refine lv_aload_n hx hb dX8_pay_35 rfl (lv_at hl 0 rfl) ?_
          refine va_get (D := D) (ci := 8) (v := .ref (a0 10)) (C := RX8) (T := TX8) (N := 27) hx hb hts hinX8 hown hK.1 hP 0 rfl rfl 9 (by decide) lkf34 (fun _ h9 => h9) rfl dX8_pay_36 ?_
          refine lv_iload_n hx hb dX8_pay_39 rfl (lv_at hl 3 rfl) ?_
          obtain ⟨hi4, h⟩ := gd_some h
          refine iald (q0 := 0) (t0 := 0) (j := x3.toNatClampNeg) hx hb hK hP 9 rfl rfl (ck_in hi4) dX8_pay_40 ?_
          refine lv_aload_n hx hb dX8_pay_41 rfl (lv_at hl 0 rfl) ?_
          refine va_get (D := D) (ci := 8) (v := .ref (a0 13)) (C := RX8) (T := TX8) (N := 27) hx hb hts hinX8 hown hK.1 hP 0 rfl rfl 12 (by decide) lkf43 (fun _ h9 => h9) rfl dX8_pay_42 ?_
          refine lv_iconst (v := (0 : Int32)) hx hb dX8_pay_45 (by decide) ?_
          refine iald (q0 := 0) (t0 := 0) (j := 0) hx hb hK hP 12 rfl rfl (vp_in_iff.mpr (by decide)) dX8_pay_46 ?_
          refine lv_icmp_gt (tgt := 56) hx hb dX8_pay_47 (by decide) (fun hc => ?_) (fun hc => ?_)
          · have h := if_t hc h
            refine lv_iconst (v := (0 : Int32)) hx hb dX8_pay_56 (by decide) ?_
            refine lv_ior hx hb dX8_pay_57 ?_
            refine lv_topi (fun v5 ev5 => ?_)
            have h := nm_ap ev5 h
            refine lv_istore_n (lv' := [(2, .int v5), (0, .ref (a0 0)), (1, .int x1), (3, .int x3)]) hx hb dX8_pay_58 rfl hl (by decide) rfl (fun ls hl => ?_)
            obtain ⟨v6, ev6⟩ : ∃ y : Int32, y = x3 + (1 : Int32) := ⟨_, rfl⟩
            refine lv_iinc (v := v6) (lv' := [(3, .int v6), (2, .int v5), (0, .ref (a0 0)), (1, .int x1)]) hx hb dX8_pay_59 hl (k := 3) rfl (by rw [ev6]; rfl) (by decide) rfl (fun ls hl => ?_)
            have h := nm_ap ev6 h
            refine lv_goto (tgt := 11) hx hb dX8_pay_62 (by decide) ?_
            exact ih v5 v6 _ _ hP hD hS ls (lv_sub hl [2, 3, 1, 0] rfl) _ h K0
          · have h := if_f hc h
            refine lv_iconst (v := (1 : Int32)) hx hb dX8_pay_50 (by decide) ?_
            refine lv_iload_n hx hb dX8_pay_51 rfl (lv_at hl 3 rfl) ?_
            refine lv_ishl hx hb dX8_pay_52 ?_
            refine lv_goto (tgt := 57) hx hb dX8_pay_53 (by decide) ?_
            refine lv_ior hx hb dX8_pay_57 ?_
            refine lv_topi (fun v7 ev7 => ?_)
            have h := nm_ap ev7 h
            refine lv_istore_n (lv' := [(2, .int v7), (0, .ref (a0 0)), (1, .int x1), (3, .int x3)]) hx hb dX8_pay_58 rfl hl (by decide) rfl (fun ls hl => ?_)
            obtain ⟨v8, ev8⟩ : ∃ y : Int32, y = x3 + (1 : Int32) := ⟨_, rfl⟩
            refine lv_iinc (v := v8) (lv' := [(3, .int v8), (2, .int v7), (0, .ref (a0 0)), (1, .int x1)]) hx hb dX8_pay_59 hl (k := 3) rfl (by rw [ev8]; rfl) (by decide) rfl (fun ls hl => ?_)
            have h := nm_ap ev8 h
            refine lv_goto (tgt := 11) hx hb dX8_pay_62 (by decide) ?_
            exact ih v7 v8 _ _ hP hD hS ls (lv_sub hl [2, 3, 1, 0] rfl) _ h K0
  refine lv_iload_n hx hb dX8_pay_0 rfl (lv_at hl 1 rfl) ?_
  refine lv_iconst (v := (-1 : Int32)) hx hb dX8_pay_1 (by decide) ?_
  refine lv_icmp_ge (tgt := 7) hx hb dX8_pay_2 (by decide) (fun hc => ?_) (fun hc => ?_)
  · have h := if_t hc h
    refine lv_iconst (v := (0 : Int32)) hx hb dX8_pay_7 (by decide) ?_
    refine lv_istore_n (lv' := [(2, .int (0 : Int32)), (0, .ref (a0 0)), (1, .int x1)]) hx hb dX8_pay_8 rfl hl (by decide) rfl (fun ls hl => ?_)
    refine lv_iconst (v := (0 : Int32)) hx hb dX8_pay_9 (by decide) ?_
    refine lv_istore_n (lv' := [(3, .int (0 : Int32)), (2, .int (0 : Int32)), (0, .ref (a0 0)), (1, .int x1)]) hx hb dX8_pay_10 rfl hl (by decide) rfl (fun ls hl => ?_)
    obtain ⟨z1, hz1, h⟩ := bd_some h
    refine LP11 x1 o0 512 (0 : Int32) (0 : Int32) _ _ hP hD hS ls (lv_sub hl [2, 3, 1, 0] rfl) _ hz1 ?_
    · intro H locs hP hD hS ls hl
      refine lv_aload_n hx hb dX8_pay_65 rfl (lv_at hl 0 rfl) ?_
      refine lv_iload_n hx hb dX8_pay_66 rfl (lv_at hl 2 rfl) ?_
      obtain ⟨z2, hz2, h⟩ := bd_some h
      refine cW_V (As := [.int z1]) (rest := []) (wn := (wX8 cA a0 z2.2)) ⟨hx, hb, hml, hown, hts⟩ (c_X8_least l D cA a0 o0 z1 z2.1 z2.2 hz2) (cwV 1 hts gX8_pay_X8_least rfl rfl rfl hd_X8_least ⟨(Nat.le_of_ble_eq_true rfl), (Nat.le_of_ble_eq_true rfl)⟩) (recvK hK hP 0 8 rfl rfl) hK hP hD hS hA [0, 1, 2, 3, 4, 5, 6, 7, 8, 9, 10, 11, 12, 13, 14, 15, 16, 17, 18, 19, 20, 21, 22] [] [0, 1, 2, 3, 4, 5, 6, 7, 8, 9, 10, 11, 12, 13, 14, 15, 16, 17, 18, 19, 20, 21, 22] rfl rfl rfl rfl rfl rfl rfl rfl hl.1 rfl (Nat.le_of_ble_eq_true rfl) dX8_pay_67 ⟨(Nat.le_of_ble_eq_true rfl), (Nat.le_of_ble_eq_true rfl)⟩ (fun H locs hP hD hS => ?_)
      refine lv_topi (fun v3 ev3 => ?_)
      have h := nm_ap ev3 h
      refine lv_istore_n (lv' := [(3, .int v3), (0, .ref (a0 0)), (1, .int x1), (2, .int z1)]) hx hb dX8_pay_70 rfl hl (by decide) rfl (fun ls hl => ?_)
      refine lv_iload_n hx hb dX8_pay_71 rfl (lv_at hl 0 rfl) ?_
      refine lv_if_ge (tgt := 78) hx hb dX8_pay_72 (by decide) (fun hc => ?_) (fun hc => ?_)
      · have h := if_t hc h
        refine lv_aload_n hx hb dX8_pay_78 rfl (lv_at hl 1 rfl) ?_
        refine lv_iload_n hx hb dX8_pay_79 rfl (lv_at hl 0 rfl) ?_
        refine lv_aload_n hx hb dX8_pay_80 rfl (lv_at hl 1 rfl) ?_
        refine va_get (D := D) (ci := 8) (v := .ref (a0 4)) (C := RX8) (T := TX8) (N := 27) hx hb hts hinX8 hown hK.1 hP 0 rfl rfl 3 (by decide) lkf16 (fun _ h9 => h9) rfl dX8_pay_81 ?_
        refine lv_iconst (v := (0 : Int32)) hx hb dX8_pay_84 (by decide) ?_
        refine iald (q0 := 0) (t0 := 0) (j := 0) hx hb hK hP 3 rfl rfl (vp_in_iff.mpr (by decide)) dX8_pay_85 ?_
        refine lv_aload_n hx hb dX8_pay_86 rfl (lv_at hl 1 rfl) ?_
        refine va_get (D := D) (ci := 8) (v := .ref (a0 13)) (C := RX8) (T := TX8) (N := 27) hx hb hts hinX8 hown hK.1 hP 0 rfl rfl 12 (by decide) lkf43 (fun _ h9 => h9) rfl dX8_pay_87 ?_
        refine lv_iconst (v := (0 : Int32)) hx hb dX8_pay_90 (by decide) ?_
        refine iald (q0 := 0) (t0 := 0) (j := 0) hx hb hK hP 12 rfl rfl (vp_in_iff.mpr (by decide)) dX8_pay_91 ?_
        obtain ⟨z4, hz4, h⟩ := bd_some h
        refine cW_V (As := [.int v3, .int (z2.2.2 3 0), .int (z2.2.2 12 0)]) (rest := []) (wn := (wX8 cA a0 z4.2)) ⟨hx, hb, hml, hown, hts⟩ (c_X8_undoSet l D cA a0 z2.2 v3 (z2.2.2 3 0) (z2.2.2 12 0) z4.1 z4.2 hz4) (cwV 3 hts gX8_pay_X8_undoSet rfl rfl rfl hd_X8_undoSet ⟨(Nat.le_of_ble_eq_true rfl), (Nat.le_of_ble_eq_true rfl)⟩) (recvK hK hP 0 8 rfl rfl) hK hP hD hS hA [0, 1, 2, 3, 4, 5, 6, 7, 8, 9, 10, 11, 12, 13, 14, 15, 16, 17, 18, 19, 20, 21, 22] [] [0, 1, 2, 3, 4, 5, 6, 7, 8, 9, 10, 11, 12, 13, 14, 15, 16, 17, 18, 19, 20, 21, 22] rfl rfl rfl rfl rfl rfl rfl rfl hl.1 rfl (Nat.le_of_ble_eq_true rfl) dX8_pay_92 ⟨(Nat.le_of_ble_eq_true rfl), (Nat.le_of_ble_eq_true rfl)⟩ (fun H locs hP hD hS => ?_)
        refine lv_pop hx hb dX8_pay_95 rfl ?_
        refine lv_iload_n hx hb dX8_pay_96 rfl (lv_at hl 2 rfl) ?_
        refine lv_if_ge (tgt := 107) hx hb dX8_pay_97 (by decide) (fun hc => ?_) (fun hc => ?_)
        · have h := if_t hc h
          refine lv_iload_n hx hb dX8_pay_107 rfl (lv_at hl 2 rfl) ?_
          refine lv_iload_n hx hb dX8_pay_108 rfl (lv_at hl 0 rfl) ?_
          obtain ⟨z5, hz5, h⟩ := bd_some h
          refine cR_S (As := [.int v3]) (rest := [.int x1]) ⟨hx, hb, hml, hown, hts⟩ (c_X8_bits l D cA  v3 z5 hz5) (va_cwS 1 hts gX8_pay_X8_bits rfl rfl rfl hd_X8_bits.2 ⟨(Nat.le_of_ble_eq_true rfl), (Nat.le_of_ble_eq_true rfl)⟩) hK hP [] rfl rfl hl.1 rfl (Nat.le_of_ble_eq_true rfl) dX8_pay_109 ⟨(Nat.le_of_ble_eq_true rfl), (Nat.le_of_ble_eq_true rfl)⟩ ?_
          refine lv_icmp_ge (tgt := 124) hx hb dX8_pay_112 (by decide) (fun hc => ?_) (fun hc => ?_)
          · have h := if_t hc h
            refine lv_bipush (v := (-4 : Int32)) hx hb dX8_pay_124 (by decide) ?_
            cases h
            exact hend _ _ _ _ hP hD hS dX8_pay_126
          · have h := if_f hc h
            refine lv_aload_n hx hb dX8_pay_115 rfl (lv_at hl 1 rfl) ?_
            refine va_get (D := D) (ci := 8) (v := .ref (a0 23)) (C := RX8) (T := TX8) (N := 27) hx hb hts hinX8 hown hK.1 hP 0 rfl rfl 22 (by decide) lkf61 (fun _ h9 => h9) rfl dX8_pay_116 ?_
            refine lv_iload_n hx hb dX8_pay_119 rfl (lv_at hl 2 rfl) ?_
            obtain ⟨hi6, h⟩ := gd_some h
            refine iald (q0 := 0) (t0 := 0) (j := x1.toNatClampNeg) hx hb hK hP 18 rfl rfl (ck_in hi6) dX8_pay_120 ?_
            refine lv_goto (tgt := 126) hx hb dX8_pay_121 (by decide) ?_
            cases h
            exact hend _ _ _ _ hP hD hS dX8_pay_126
        · have h := if_f hc h
          refine lv_iload_n hx hb dX8_pay_100 rfl (lv_at hl 0 rfl) ?_
          obtain ⟨z7, hz7, h⟩ := bd_some h
          refine cR_S (As := [.int v3]) (rest := []) ⟨hx, hb, hml, hown, hts⟩ (c_X8_bits l D cA  v3 z7 hz7) (va_cwS 1 hts gX8_pay_X8_bits rfl rfl rfl hd_X8_bits.2 ⟨(Nat.le_of_ble_eq_true rfl), (Nat.le_of_ble_eq_true rfl)⟩) hK hP [] rfl rfl hl.1 rfl (Nat.le_of_ble_eq_true rfl) dX8_pay_101 ⟨(Nat.le_of_ble_eq_true rfl), (Nat.le_of_ble_eq_true rfl)⟩ ?_
          refine lv_goto (tgt := 126) hx hb dX8_pay_104 (by decide) ?_
          cases h
          exact hend _ _ _ _ hP hD hS dX8_pay_126
      · have h := if_f hc h
        refine lv_bipush (v := (-4 : Int32)) hx hb dX8_pay_75 (by decide) ?_
        cases h
        exact hend _ _ _ _ hP hD hS dX8_pay_77
  · have h := if_f hc h
    refine lv_iconst (v := (-1 : Int32)) hx hb dX8_pay_5 (by decide) ?_
    cases h
    exact hend _ _ _ _ hP hD hS dX8_pay_6
abbrev rmX8_everBy : Room := ({ frames := 4, cells := 0, slots := 0, locals := 99 } : Room)
set_option maxHeartbeats 4000000 in
set_option maxRecDepth 100000 in
theorem c_X8_everBy (l : Launch) (D : va_G) (cA : ClassId) (a0 : (Nat → Nat)) (o0 : Ob) (x1 : Int32) (r : Int32) (o0_ : Ob) (h : f_X8_everBy o0 x1 = some (r, o0_)) : ConW l yX8_everBy wsX8_everBy rmX8_everBy D cA [.ref (a0 0), .int x1] (wX8 cA a0 o0) r (wX8 cA a0 o0_) := by
  refine ConW.enter (cc := cX8_everBy) (maxL := 5) (by decide) rfl (Nat.le_of_ble_eq_true rfl) ?_
  intro p e s m args below meth c Q A hx hb hml hown hts hK hP hD hA hend ls hl
  have hS : va_S A s.heap s.heap [] := va_S.rf
  have hl : lv_has ls 5 [(0, .ref (a0 0)), (1, .int x1)] := hl
  unfold f_X8_everBy at h
  have lkf40 := hts (.fieldLink RX8 40 "TiedToTownModel" "tied" "[I") (List.mem_of_getElem? (i := 1) rfl)
  have hinX8 : ∀ w ∈ wsX80, w ∈ wsX8_everBy := fun w h => List.mem_cons_of_mem _ (List.mem_append_right _ h)
  have lkf61 := hts (.fieldLink RX8 61 "TiedToTownModel" "turn" "[I") (List.mem_of_getElem? (i := 2) rfl)
  have LP24 : ∀ (x2 : Int32) (o0 : Ob) (n : Nat) (x3 : Int32) (x4 : Int32) (H : Heap) (locs : List Loc) (_ : va_P D vwCl (wX8 cA a0 o0) H) (_ : va_D A (wX8 cA a0 o0)) (_ : va_S A s.heap H locs) (ls : Array Slot) (_ : lv_has ls 5 [(0, .ref (a0 0)), (2, .int x2), (3, .int x3), (4, .int x4)]) (res : Int32) (_ : L_X8_everBy_24 x2 o0 n x3 x4 = some res) (_ : (∀ (H : Heap) (locs : List Loc) (_ : va_P D vwCl (wX8 cA a0 o0) H) (_ : va_D A (wX8 cA a0 o0)) (_ : va_S A s.heap H locs) (ls : Array Slot), lv_has ls 5 [(3, .int res)] → W p l e rmX8_everBy s m args below meth c H locs 0 0 Q (F0 m 50 ls []))), W p l e rmX8_everBy s m args below meth c H locs 0 0 Q (F0 m 24 ls []) := by
    intro x2 o0 n
    induction n with
    | zero =>
      intro x3 x4 H locs hP hD hS ls hl res h K0
      exact absurd h (fun q : (none : Option (Int32)) = some res => by cases q)
    | succ n ih =>
      intro x3 x4 H locs hP hD hS ls hl res h K0
      have h : L_X8_everBy_24_step x2 o0 (L_X8_everBy_24 x2 o0 n) x3 x4 = some res := h
      unfold L_X8_everBy_24_step at h
      refine lv_iload hx hb dX8_everBy_24 (lv_at hl 3 rfl) ?_
      refine lv_iload_n hx hb dX8_everBy_26 rfl (lv_at hl 1 rfl) ?_
      refine lv_icmp_ge (tgt := 50) hx hb dX8_everBy_27 (by decide) (fun hc => ?_) (fun hc => ?_)
      · have h := if_t hc h
        cases h
        exact K0 _ _ hP hD hS _ (lv_sub hl [2] rfl)
      · have h := if_f hc h
        refine lv_iload_n hx hb dX8_everBy_30 rfl (lv_at hl 2 rfl) ?_
        refine lv_iconst (v := (1 : Int32)) hx hb dX8_everBy_31 (by decide) ?_
        refine lv_aload_n hx hb dX8_everBy_32 rfl (lv_at hl 0 rfl) ?_
        refine va_get (D := D) (ci := 8) (v := .ref (a0 23)) (C := RX8) (T := TX8) (N := 27) hx hb hts hinX8 hown hK.1 hP 0 rfl rfl 22 (by decide) lkf61 (fun _ h9 => h9) rfl dX8_everBy_33 ?_
        refine lv_iload hx hb dX8_everBy_36 (lv_at hl 3 rfl) ?_
        obtain ⟨hi1, h⟩ := gd_some h
        refine iald (q0 := 0) (t0 := 0) (j := x4.toNatClampNeg) hx hb hK hP 18 rfl rfl (ck_in hi1) dX8_everBy_38 ?_
        refine lv_ishl hx hb dX8_everBy_39 ?_
        refine lv_iconst (v := (-1 : Int32)) hx hb dX8_everBy_40 (by decide) ?_
        refine lv_ixor hx hb dX8_everBy_41 ?_
        refine lv_iand hx hb dX8_everBy_42 ?_
        refine lv_topi (fun v2 ev2 => ?_)
        have h := nm_ap ev2 h
        refine lv_istore_n (lv' := [(3, .int v2), (0, .ref (a0 0)), (2, .int x2), (4, .int x4)]) hx hb dX8_everBy_43 rfl hl (by decide) rfl (fun ls hl => ?_)
        obtain ⟨v3, ev3⟩ : ∃ y : Int32, y = x4 + (1 : Int32) := ⟨_, rfl⟩
        refine lv_iinc (v := v3) (lv' := [(4, .int v3), (3, .int v2), (0, .ref (a0 0)), (2, .int x2)]) hx hb dX8_everBy_44 hl (k := 3) rfl (by rw [ev3]; rfl) (by decide) rfl (fun ls hl => ?_)
        have h := nm_ap ev3 h
        refine lv_goto (tgt := 24) hx hb dX8_everBy_47 (by decide) ?_
        exact ih v2 v3 _ _ hP hD hS ls (lv_sub hl [2, 3, 1, 0] rfl) _ h K0
  refine lv_aload_n hx hb dX8_everBy_0 rfl (lv_at hl 0 rfl) ?_
  refine lv_aload_n hx hb dX8_everBy_1 rfl (lv_at hl 0 rfl) ?_
  refine va_get (D := D) (ci := 8) (v := .ref (a0 12)) (C := RX8) (T := TX8) (N := 27) hx hb hts hinX8 hown hK.1 hP 0 rfl rfl 11 (by decide) lkf40 (fun _ h9 => h9) rfl dX8_everBy_2 ?_
  refine lv_iconst (v := (0 : Int32)) hx hb dX8_everBy_5 (by decide) ?_
  refine iald (q0 := 0) (t0 := 0) (j := 0) hx hb hK hP 11 rfl rfl (vp_in_iff.mpr (by decide)) dX8_everBy_6 ?_
  refine lv_iload_n hx hb dX8_everBy_7 rfl (lv_at hl 1 rfl) ?_
  refine lv_bipush (v := (99 : Int32)) hx hb dX8_everBy_8 (by decide) ?_
  obtain ⟨z1, hz1, h⟩ := bd_some h
  refine cW_V (As := [.int (o0.2 11 0), .int x1, .int (99 : Int32)]) (rest := []) (wn := (wX8 cA a0 z1.2)) ⟨hx, hb, hml, hown, hts⟩ (c_X8_undoSet l D cA a0 o0 (o0.2 11 0) x1 (99 : Int32) z1.1 z1.2 hz1) (cwV 3 hts gX8_everBy_X8_undoSet rfl rfl rfl hd_X8_undoSet ⟨(Nat.le_of_ble_eq_true rfl), (Nat.le_of_ble_eq_true rfl)⟩) (recvK hK hP 0 8 rfl rfl) hK hP hD hS hA [0, 1, 2, 3, 4, 5, 6, 7, 8, 9, 10, 11, 12, 13, 14, 15, 16, 17, 18, 19, 20, 21, 22] [] [0, 1, 2, 3, 4, 5, 6, 7, 8, 9, 10, 11, 12, 13, 14, 15, 16, 17, 18, 19, 20, 21, 22] rfl rfl rfl rfl rfl rfl rfl rfl hl.1 rfl (Nat.le_of_ble_eq_true rfl) dX8_everBy_10 ⟨(Nat.le_of_ble_eq_true rfl), (Nat.le_of_ble_eq_true rfl)⟩ (fun H locs hP hD hS => ?_)
  refine lv_topi (fun v2 ev2 => ?_)
  have h := nm_ap ev2 h
  refine lv_istore_n (lv' := [(2, .int v2), (0, .ref (a0 0)), (1, .int x1)]) hx hb dX8_everBy_13 rfl hl (by decide) rfl (fun ls hl => ?_)
  refine lv_aload_n hx hb dX8_everBy_14 rfl (lv_at hl 1 rfl) ?_
  refine va_get (D := D) (ci := 8) (v := .ref (a0 12)) (C := RX8) (T := TX8) (N := 27) hx hb hts hinX8 hown hK.1 hP 0 rfl rfl 11 (by decide) lkf40 (fun _ h9 => h9) rfl dX8_everBy_15 ?_
  refine lv_iconst (v := (0 : Int32)) hx hb dX8_everBy_18 (by decide) ?_
  refine iald (q0 := 0) (t0 := 0) (j := 0) hx hb hK hP 11 rfl rfl (vp_in_iff.mpr (by decide)) dX8_everBy_19 ?_
  refine lv_topi (fun v3 ev3 => ?_)
  have h := nm_ap ev3 h
  refine lv_istore_n (lv' := [(3, .int v3), (2, .int v2), (0, .ref (a0 0)), (1, .int x1)]) hx hb dX8_everBy_20 rfl hl (by decide) rfl (fun ls hl => ?_)
  refine lv_iconst (v := (0 : Int32)) hx hb dX8_everBy_21 (by decide) ?_
  refine lv_istore (lv' := [(4, .int (0 : Int32)), (3, .int v3), (2, .int v2), (0, .ref (a0 0)), (1, .int x1)]) hx hb dX8_everBy_22 hl (by decide) rfl (fun ls hl => ?_)
  obtain ⟨z4, hz4, h⟩ := bd_some h
  refine LP24 v2 z1.2 512 v3 (0 : Int32) _ _ hP hD hS ls (lv_sub hl [3, 2, 1, 0] rfl) _ hz4 ?_
  · intro H locs hP hD hS ls hl
    refine lv_iload_n hx hb dX8_everBy_50 rfl (lv_at hl 0 rfl) ?_
    cases h
    exact hend _ _ _ _ hP hD hS dX8_everBy_51
abbrev rmX8_forEver : Room := ({ frames := 5, cells := 0, slots := 0, locals := 123 } : Room)
set_option maxHeartbeats 4000000 in
set_option maxRecDepth 100000 in
theorem c_X8_forEver (l : Launch) (D : va_G) (cA : ClassId) (a0 : (Nat → Nat)) (o0 : Ob) (r : Int32) (o0_ : Ob) (h : f_X8_forEver o0 = some (r, o0_)) : ConW l yX8_forEver wsX8_forEver rmX8_forEver D cA [.ref (a0 0)] (wX8 cA a0 o0) r (wX8 cA a0 o0_) := by
  refine ConW.enter (cc := cX8_forEver) (maxL := 1) (by decide) rfl (Nat.le_of_ble_eq_true rfl) ?_
  intro p e s m args below meth c Q A hx hb hml hown hts hK hP hD hA hend ls hl
  have hS : va_S A s.heap s.heap [] := va_S.rf
  have hl : lv_has ls 1 [(0, .ref (a0 0))] := hl
  unfold f_X8_forEver at h
  have lkf16 := hts (.fieldLink RX8 16 "TiedToTownModel" "alive" "[I") (List.mem_of_getElem? (i := 1) rfl)
  have hinX8 : ∀ w ∈ wsX80, w ∈ wsX8_forEver := fun w h => List.mem_cons_of_mem _ (List.mem_append_right _ h)
  refine lv_aload_n hx hb dX8_forEver_0 rfl (lv_at hl 0 rfl) ?_
  refine lv_aload_n hx hb dX8_forEver_1 rfl (lv_at hl 0 rfl) ?_
  refine va_get (D := D) (ci := 8) (v := .ref (a0 4)) (C := RX8) (T := TX8) (N := 27) hx hb hts hinX8 hown hK.1 hP 0 rfl rfl 3 (by decide) lkf16 (fun _ h9 => h9) rfl dX8_forEver_2 ?_
  refine lv_iconst (v := (0 : Int32)) hx hb dX8_forEver_5 (by decide) ?_
  refine iald (q0 := 0) (t0 := 0) (j := 0) hx hb hK hP 3 rfl rfl (vp_in_iff.mpr (by decide)) dX8_forEver_6 ?_
  obtain ⟨z1, hz1, h⟩ := bd_some h
  refine cW_V (As := [.int (o0.2 3 0)]) (rest := []) (wn := (wX8 cA a0 z1.2)) ⟨hx, hb, hml, hown, hts⟩ (c_X8_everBy l D cA a0 o0 (o0.2 3 0) z1.1 z1.2 hz1) (cwV 1 hts gX8_forEver_X8_everBy rfl rfl rfl hd_X8_everBy ⟨(Nat.le_of_ble_eq_true rfl), (Nat.le_of_ble_eq_true rfl)⟩) (recvK hK hP 0 8 rfl rfl) hK hP hD hS hA [0, 1, 2, 3, 4, 5, 6, 7, 8, 9, 10, 11, 12, 13, 14, 15, 16, 17, 18, 19, 20, 21, 22] [] [0, 1, 2, 3, 4, 5, 6, 7, 8, 9, 10, 11, 12, 13, 14, 15, 16, 17, 18, 19, 20, 21, 22] rfl rfl rfl rfl rfl rfl rfl rfl hl.1 rfl (Nat.le_of_ble_eq_true rfl) dX8_forEver_7 ⟨(Nat.le_of_ble_eq_true rfl), (Nat.le_of_ble_eq_true rfl)⟩ (fun H locs hP hD hS => ?_)
  cases h
  exact hend _ _ _ _ hP hD hS dX8_forEver_10
abbrev rmX8_frees : Room := ({ frames := 5, cells := 0, slots := 0, locals := 123 } : Room)
set_option maxHeartbeats 4000000 in
set_option maxRecDepth 100000 in
theorem c_X8_frees (l : Launch) (D : va_G) (cA : ClassId) (a0 : (Nat → Nat)) (o0 : Ob) (x1 : Int32) (r : Int32) (o0_ : Ob) (h : f_X8_frees o0 x1 = some (r, o0_)) : ConW l yX8_frees wsX8_frees rmX8_frees D cA [.ref (a0 0), .int x1] (wX8 cA a0 o0) r (wX8 cA a0 o0_) := by
  refine ConW.enter (cc := cX8_frees) (maxL := 2) (by decide) rfl (Nat.le_of_ble_eq_true rfl) ?_
  intro p e s m args below meth c Q A hx hb hml hown hts hK hP hD hA hend ls hl
  have hS : va_S A s.heap s.heap [] := va_S.rf
  have hl : lv_has ls 2 [(0, .ref (a0 0)), (1, .int x1)] := hl
  unfold f_X8_frees at h
  have lkf16 := hts (.fieldLink RX8 16 "TiedToTownModel" "alive" "[I") (List.mem_of_getElem? (i := 1) rfl)
  have hinX8 : ∀ w ∈ wsX80, w ∈ wsX8_frees := fun w h => List.mem_cons_of_mem _ (List.mem_append_right _ h)
  refine lv_aload_n hx hb dX8_frees_0 rfl (lv_at hl 0 rfl) ?_
  refine lv_iload_n hx hb dX8_frees_1 rfl (lv_at hl 1 rfl) ?_
  obtain ⟨z1, hz1, h⟩ := bd_some h
  refine cR_V (As := [.int x1]) (rest := []) ⟨hx, hb, hml, hown, hts⟩ (c_X8_isPerson l D cA a0 o0 x1 z1 hz1) (cwV 1 hts gX8_frees_X8_isPerson rfl rfl rfl hd_X8_isPerson ⟨(Nat.le_of_ble_eq_true rfl), (Nat.le_of_ble_eq_true rfl)⟩) (recvK hK hP 0 8 rfl rfl) hK hP [0, 1, 2, 3, 4, 5, 6, 7, 8, 9, 10, 11, 12, 13, 14, 15, 16, 17, 18, 19, 20, 21, 22] rfl rfl hl.1 rfl (Nat.le_of_ble_eq_true rfl) dX8_frees_2 ⟨(Nat.le_of_ble_eq_true rfl), (Nat.le_of_ble_eq_true rfl)⟩ ?_
  refine lv_if_eq (tgt := 42) hx hb dX8_frees_5 (by decide) (fun hc => ?_) (fun hc => ?_)
  · have h := if_t hc h
    refine lv_iconst (v := (-1 : Int32)) hx hb dX8_frees_42 (by decide) ?_
    cases h
    exact hend _ _ _ _ hP hD hS dX8_frees_43
  · have h := if_f hc h
    refine lv_aload_n hx hb dX8_frees_8 rfl (lv_at hl 0 rfl) ?_
    refine lv_aload_n hx hb dX8_frees_9 rfl (lv_at hl 0 rfl) ?_
    refine va_get (D := D) (ci := 8) (v := .ref (a0 4)) (C := RX8) (T := TX8) (N := 27) hx hb hts hinX8 hown hK.1 hP 0 rfl rfl 3 (by decide) lkf16 (fun _ h9 => h9) rfl dX8_frees_10 ?_
    refine lv_iconst (v := (0 : Int32)) hx hb dX8_frees_13 (by decide) ?_
    refine iald (q0 := 0) (t0 := 0) (j := 0) hx hb hK hP 3 rfl rfl (vp_in_iff.mpr (by decide)) dX8_frees_14 ?_
    obtain ⟨z2, hz2, h⟩ := bd_some h
    refine cW_V (As := [.int (o0.2 3 0)]) (rest := []) (wn := (wX8 cA a0 z2.2)) ⟨hx, hb, hml, hown, hts⟩ (c_X8_everBy l D cA a0 o0 (o0.2 3 0) z2.1 z2.2 hz2) (cwV 1 hts gX8_frees_X8_everBy rfl rfl rfl hd_X8_everBy ⟨(Nat.le_of_ble_eq_true rfl), (Nat.le_of_ble_eq_true rfl)⟩) (recvK hK hP 0 8 rfl rfl) hK hP hD hS hA [0, 1, 2, 3, 4, 5, 6, 7, 8, 9, 10, 11, 12, 13, 14, 15, 16, 17, 18, 19, 20, 21, 22] [] [0, 1, 2, 3, 4, 5, 6, 7, 8, 9, 10, 11, 12, 13, 14, 15, 16, 17, 18, 19, 20, 21, 22] rfl rfl rfl rfl rfl rfl rfl rfl hl.1 rfl (Nat.le_of_ble_eq_true rfl) dX8_frees_15 ⟨(Nat.le_of_ble_eq_true rfl), (Nat.le_of_ble_eq_true rfl)⟩ (fun H locs hP hD hS => ?_)
    obtain ⟨z3, hz3, h⟩ := bd_some h
    refine cR_S (As := [.int z2.1]) (rest := []) ⟨hx, hb, hml, hown, hts⟩ (c_X8_bits l D cA  z2.1 z3 hz3) (va_cwS 1 hts gX8_frees_X8_bits rfl rfl rfl hd_X8_bits.2 ⟨(Nat.le_of_ble_eq_true rfl), (Nat.le_of_ble_eq_true rfl)⟩) hK hP [] rfl rfl hl.1 rfl (Nat.le_of_ble_eq_true rfl) dX8_frees_18 ⟨(Nat.le_of_ble_eq_true rfl), (Nat.le_of_ble_eq_true rfl)⟩ ?_
    refine lv_aload_n hx hb dX8_frees_21 rfl (lv_at hl 0 rfl) ?_
    refine lv_aload_n hx hb dX8_frees_22 rfl (lv_at hl 0 rfl) ?_
    refine va_get (D := D) (ci := 8) (v := .ref (a0 4)) (C := RX8) (T := TX8) (N := 27) hx hb hts hinX8 hown hK.1 hP 0 rfl rfl 3 (by decide) lkf16 (fun _ h9 => h9) rfl dX8_frees_23 ?_
    refine lv_iconst (v := (0 : Int32)) hx hb dX8_frees_26 (by decide) ?_
    refine iald (q0 := 0) (t0 := 0) (j := 0) hx hb hK hP 3 rfl rfl (vp_in_iff.mpr (by decide)) dX8_frees_27 ?_
    refine lv_iconst (v := (1 : Int32)) hx hb dX8_frees_28 (by decide) ?_
    refine lv_iload_n hx hb dX8_frees_29 rfl (lv_at hl 1 rfl) ?_
    refine lv_ishl hx hb dX8_frees_30 ?_
    refine lv_ior hx hb dX8_frees_31 ?_
    obtain ⟨z4, hz4, h⟩ := bd_some h
    refine cW_V (As := [.int ((z2.2.2 3 0) ||| ((1 : Int32) <<< (x1 &&& 31)))]) (rest := [.int z3]) (wn := (wX8 cA a0 z4.2)) ⟨hx, hb, hml, hown, hts⟩ (c_X8_everBy l D cA a0 z2.2 ((z2.2.2 3 0) ||| ((1 : Int32) <<< (x1 &&& 31))) z4.1 z4.2 hz4) (cwV 1 hts gX8_frees_X8_everBy rfl rfl rfl hd_X8_everBy ⟨(Nat.le_of_ble_eq_true rfl), (Nat.le_of_ble_eq_true rfl)⟩) (recvK hK hP 0 8 rfl rfl) hK hP hD hS hA [0, 1, 2, 3, 4, 5, 6, 7, 8, 9, 10, 11, 12, 13, 14, 15, 16, 17, 18, 19, 20, 21, 22] [] [0, 1, 2, 3, 4, 5, 6, 7, 8, 9, 10, 11, 12, 13, 14, 15, 16, 17, 18, 19, 20, 21, 22] rfl rfl rfl rfl rfl rfl rfl rfl hl.1 rfl (Nat.le_of_ble_eq_true rfl) dX8_frees_32 ⟨(Nat.le_of_ble_eq_true rfl), (Nat.le_of_ble_eq_true rfl)⟩ (fun H locs hP hD hS => ?_)
    obtain ⟨z5, hz5, h⟩ := bd_some h
    refine cR_S (As := [.int z4.1]) (rest := [.int z3]) ⟨hx, hb, hml, hown, hts⟩ (c_X8_bits l D cA  z4.1 z5 hz5) (va_cwS 1 hts gX8_frees_X8_bits rfl rfl rfl hd_X8_bits.2 ⟨(Nat.le_of_ble_eq_true rfl), (Nat.le_of_ble_eq_true rfl)⟩) hK hP [] rfl rfl hl.1 rfl (Nat.le_of_ble_eq_true rfl) dX8_frees_35 ⟨(Nat.le_of_ble_eq_true rfl), (Nat.le_of_ble_eq_true rfl)⟩ ?_
    refine lv_isub hx hb dX8_frees_38 ?_
    refine lv_goto (tgt := 43) hx hb dX8_frees_39 (by decide) ?_
    cases h
    exact hend _ _ _ _ hP hD hS dX8_frees_43
abbrev rmX8_ropeOf : Room := ({ frames := 1, cells := 0, slots := 0, locals := 21 } : Room)
set_option maxHeartbeats 4000000 in
set_option maxRecDepth 100000 in
theorem c_X8_ropeOf (l : Launch) (D : va_G) (cA : ClassId) (x0 : Int32) (r : Int32) (h : f_X8_ropeOf x0 = some r) : ConR l yX8_ropeOf wsX8_ropeOf rmX8_ropeOf D cA [.int x0] ([] : va_W) r := by
  refine ConR.enter (cc := cX8_ropeOf) (maxL := 3) (by decide) rfl (Nat.le_of_ble_eq_true rfl) ?_
  intro p e s m args below meth c Q hx hb hml hown hts hK hP  hend ls hl
  have hl : lv_has ls 3 [(0, .int x0)] := hl
  unfold f_X8_ropeOf at h
  have LP2 : ∀ (x0 : Int32) (n : Nat) (x1 : Int32) (ls : Array Slot) (_ : lv_has ls 3 [(0, .int x0), (1, .int x1)]) (res : Int32) (_ : L_X8_ropeOf_2 x0 n x1 = some res) (_ : (∀ (ls : Array Slot), lv_has ls 3 [(0, .int x0), (1, .int res)] → W p l e rmX8_ropeOf s m args below meth c s.heap [] 0 0 Q (F0 m 16 ls []))), W p l e rmX8_ropeOf s m args below meth c s.heap [] 0 0 Q (F0 m 2 ls []) := by
    intro x0 n
    induction n with
    | zero =>
      intro x1 ls hl res h K0
      exact absurd h (fun q : (none : Option (Int32)) = some res => by cases q)
    | succ n ih =>
      intro x1 ls hl res h K0
      have h : L_X8_ropeOf_2_step x0 (L_X8_ropeOf_2 x0 n) x1 = some res := h
      unfold L_X8_ropeOf_2_step at h
      refine lv_iload_n hx hb dX8_ropeOf_2 rfl (lv_at hl 0 rfl) ?_
      refine lv_iload_n hx hb dX8_ropeOf_3 rfl (lv_at hl 1 rfl) ?_
      obtain ⟨z1, hz1, h⟩ := bd_some h
      refine cR_S (As := [.int x0, .int x1]) (rest := []) ⟨hx, hb, hml, hown, hts⟩ (c_X8_has l D cA  x0 x1 z1 hz1) (va_cwS 2 hts gX8_ropeOf_X8_has rfl rfl rfl hd_X8_has.2 ⟨(Nat.le_of_ble_eq_true rfl), (Nat.le_of_ble_eq_true rfl)⟩) hK hP [] rfl rfl hl.1 rfl (Nat.le_of_ble_eq_true rfl) dX8_ropeOf_4 ⟨(Nat.le_of_ble_eq_true rfl), (Nat.le_of_ble_eq_true rfl)⟩ ?_
      refine lv_if_ne (tgt := 16) hx hb dX8_ropeOf_7 (by decide) (fun hc => ?_) (fun hc => ?_)
      · have h := if_f hc h
        cases h
        exact K0 _ (lv_sub hl [0, 1] rfl)
      · have h := if_t hc h
        obtain ⟨v2, ev2⟩ : ∃ y : Int32, y = x1 + (1 : Int32) := ⟨_, rfl⟩
        refine lv_iinc (v := v2) (lv' := [(1, .int v2), (0, .int x0)]) hx hb dX8_ropeOf_10 hl (k := 1) rfl (by rw [ev2]; rfl) (by decide) rfl (fun ls hl => ?_)
        have h := nm_ap ev2 h
        refine lv_goto (tgt := 2) hx hb dX8_ropeOf_13 (by decide) ?_
        exact ih v2 ls (lv_sub hl [1, 0] rfl) _ h K0
  have LP19 : ∀ (x0 : Int32) (x1 : Int32) (n : Nat) (x2 : Int32) (ls : Array Slot) (_ : lv_has ls 3 [(0, .int x0), (1, .int x1), (2, .int x2)]) (res : Int32) (_ : L_X8_ropeOf_19 x0 x1 n x2 = some res) (_ : (∀ (ls : Array Slot), lv_has ls 3 [(1, .int x1), (2, .int res)] → W p l e rmX8_ropeOf s m args below meth c s.heap [] 0 0 Q (F0 m 33 ls []))), W p l e rmX8_ropeOf s m args below meth c s.heap [] 0 0 Q (F0 m 19 ls []) := by
    intro x0 x1 n
    induction n with
    | zero =>
      intro x2 ls hl res h K0
      exact absurd h (fun q : (none : Option (Int32)) = some res => by cases q)
    | succ n ih =>
      intro x2 ls hl res h K0
      have h : L_X8_ropeOf_19_step x0 x1 (L_X8_ropeOf_19 x0 x1 n) x2 = some res := h
      unfold L_X8_ropeOf_19_step at h
      refine lv_iload_n hx hb dX8_ropeOf_19 rfl (lv_at hl 0 rfl) ?_
      refine lv_iload_n hx hb dX8_ropeOf_20 rfl (lv_at hl 2 rfl) ?_
      obtain ⟨z1, hz1, h⟩ := bd_some h
      refine cR_S (As := [.int x0, .int x2]) (rest := []) ⟨hx, hb, hml, hown, hts⟩ (c_X8_has l D cA  x0 x2 z1 hz1) (va_cwS 2 hts gX8_ropeOf_X8_has rfl rfl rfl hd_X8_has.2 ⟨(Nat.le_of_ble_eq_true rfl), (Nat.le_of_ble_eq_true rfl)⟩) hK hP [] rfl rfl hl.1 rfl (Nat.le_of_ble_eq_true rfl) dX8_ropeOf_21 ⟨(Nat.le_of_ble_eq_true rfl), (Nat.le_of_ble_eq_true rfl)⟩ ?_
      refine lv_if_ne (tgt := 33) hx hb dX8_ropeOf_24 (by decide) (fun hc => ?_) (fun hc => ?_)
      · have h := if_f hc h
        cases h
        exact K0 _ (lv_sub hl [1, 2] rfl)
      · have h := if_t hc h
        obtain ⟨v2, ev2⟩ : ∃ y : Int32, y = x2 + (-1 : Int32) := ⟨_, rfl⟩
        refine lv_iinc (v := v2) (lv' := [(2, .int v2), (0, .int x0), (1, .int x1)]) hx hb dX8_ropeOf_27 hl (k := 2) rfl (by rw [ev2]; rfl) (by decide) rfl (fun ls hl => ?_)
        have h := nm_ap ev2 h
        refine lv_goto (tgt := 19) hx hb dX8_ropeOf_30 (by decide) ?_
        exact ih v2 ls (lv_sub hl [1, 2, 0] rfl) _ h K0
  refine lv_iconst (v := (0 : Int32)) hx hb dX8_ropeOf_0 (by decide) ?_
  refine lv_istore_n (lv' := [(1, .int (0 : Int32)), (0, .int x0)]) hx hb dX8_ropeOf_1 rfl hl (by decide) rfl (fun ls hl => ?_)
  obtain ⟨z1, hz1, h⟩ := bd_some h
  refine LP2 x0 512 (0 : Int32) ls (lv_sub hl [1, 0] rfl) _ hz1 ?_
  · intro ls hl
    refine lv_bipush (v := (7 : Int32)) hx hb dX8_ropeOf_16 (by decide) ?_
    refine lv_istore_n (lv' := [(2, .int (7 : Int32)), (0, .int x0), (1, .int z1)]) hx hb dX8_ropeOf_18 rfl hl (by decide) rfl (fun ls hl => ?_)
    obtain ⟨z2, hz2, h⟩ := bd_some h
    refine LP19 x0 z1 512 (7 : Int32) ls (lv_sub hl [1, 2, 0] rfl) _ hz2 ?_
    · intro ls hl
      refine lv_iload_n hx hb dX8_ropeOf_33 rfl (lv_at hl 1 rfl) ?_
      refine lv_iload_n hx hb dX8_ropeOf_34 rfl (lv_at hl 0 rfl) ?_
      refine lv_isub hx hb dX8_ropeOf_35 ?_
      cases h
      exact hend _ _ dX8_ropeOf_36
abbrev rmX8_fresh : Room := ({ frames := 2, cells := 0, slots := 0, locals := 46 } : Room)
set_option maxHeartbeats 4000000 in
set_option maxRecDepth 100000 in
theorem c_X8_fresh (l : Launch) (D : va_G) (cA : ClassId) (a0 : (Nat → Nat)) (o0 : Ob) (x1 : Int32) (x2 : Int32) (x3 : Int32) (r : Int32) (h : f_X8_fresh o0 x1 x2 x3 = some r) : ConR l yX8_fresh wsX8_fresh rmX8_fresh D cA [.ref (a0 0), .int x1, .int x2, .int x3] (wX8 cA a0 o0) r := by
  refine ConR.enter (cc := cX8_fresh) (maxL := 8) (by decide) rfl (Nat.le_of_ble_eq_true rfl) ?_
  intro p e s m args below meth c Q hx hb hml hown hts hK hP  hend ls hl
  have hl : lv_has ls 8 [(0, .ref (a0 0)), (1, .int x1), (2, .int x2), (3, .int x3)] := hl
  unfold f_X8_fresh at h
  have lkc80 := hts (.constantLong RX8 80 (8)) (List.mem_of_getElem? (i := 1) rfl)
  have lkf22 := hts (.fieldLink RX8 22 "TiedToTownModel" "many" "[I") (List.mem_of_getElem? (i := 2) rfl)
  have hinX8 : ∀ w ∈ wsX80, w ∈ wsX8_fresh := fun w h => List.mem_cons_of_mem _ (List.mem_append_right _ h)
  have lkf40 := hts (.fieldLink RX8 40 "TiedToTownModel" "tied" "[I") (List.mem_of_getElem? (i := 3) rfl)
  have LP50 : ∀ (x1 : Int32) (x2 : Int32) (x3 : Int32) (n : Nat) (x4 : Int32) (x5 : Int32) (ls : Array Slot) (_ : lv_has ls 8 [(0, .ref (a0 0)), (1, .int x1), (2, .int x2), (3, .int x3), (4, .int x4), (5, .int x5)]) (res : Int32) (_ : L_X8_fresh_50 x1 x2 x3 o0 n x4 x5 = some res) (_ : (∀ (ls : Array Slot), lv_has ls 8 [(0, .ref (a0 0)), (1, .int x1), (3, .int x3), (4, .int res)] → W p l e rmX8_fresh s m args below meth c s.heap [] 0 0 Q (F0 m 97 ls []))), W p l e rmX8_fresh s m args below meth c s.heap [] 0 0 Q (F0 m 50 ls []) := by
    intro x1 x2 x3 n
    induction n with
    | zero =>
      intro x4 x5 ls hl res h K0
      exact absurd h (fun q : (none : Option (Int32)) = some res => by cases q)
    | succ n ih =>
      intro x4 x5 ls hl res h K0
      have h : L_X8_fresh_50_step x1 x2 x3 o0 (L_X8_fresh_50 x1 x2 x3 o0 n) x4 x5 = some res := h
      unfold L_X8_fresh_50_step at h
      refine lv_iload hx hb dX8_fresh_50 (lv_at hl 5 rfl) ?_
      refine lv_aload_n hx hb dX8_fresh_52 rfl (lv_at hl 0 rfl) ?_
      refine va_get (D := D) (ci := 8) (v := .ref (a0 6)) (C := RX8) (T := TX8) (N := 27) hx hb hts hinX8 hown hK.1 hP 0 rfl rfl 5 (by decide) lkf22 (fun _ h9 => h9) rfl dX8_fresh_53 ?_
      refine lv_iconst (v := (0 : Int32)) hx hb dX8_fresh_56 (by decide) ?_
      refine iald (q0 := 0) (t0 := 0) (j := 0) hx hb hK hP 5 rfl rfl (vp_in_iff.mpr (by decide)) dX8_fresh_57 ?_
      refine lv_icmp_ge (tgt := 97) hx hb dX8_fresh_58 (by decide) (fun hc => ?_) (fun hc => ?_)
      · have h := if_t hc h
        cases h
        exact K0 _ (lv_sub hl [0, 1, 3, 4] rfl)
      · have h := if_f hc h
        refine lv_iload hx hb dX8_fresh_61 (lv_at hl 4 rfl) ?_
        refine lv_iload_n hx hb dX8_fresh_63 rfl (lv_at hl 2 rfl) ?_
        refine lv_iload hx hb dX8_fresh_64 (lv_at hl 5 rfl) ?_
        obtain ⟨z1, hz1, h⟩ := bd_some h
        refine cR_S (As := [.int x2, .int x5]) (rest := [.int x4]) ⟨hx, hb, hml, hown, hts⟩ (c_X8_has l D cA  x2 x5 z1 hz1) (va_cwS 2 hts gX8_fresh_X8_has rfl rfl rfl hd_X8_has.2 ⟨(Nat.le_of_ble_eq_true rfl), (Nat.le_of_ble_eq_true rfl)⟩) hK hP [] rfl rfl hl.1 rfl (Nat.le_of_ble_eq_true rfl) dX8_fresh_66 ⟨(Nat.le_of_ble_eq_true rfl), (Nat.le_of_ble_eq_true rfl)⟩ ?_
        refine lv_if_eq (tgt := 87) hx hb dX8_fresh_69 (by decide) (fun hc => ?_) (fun hc => ?_)
        · have h := if_t hc h
          refine lv_iconst (v := (0 : Int32)) hx hb dX8_fresh_87 (by decide) ?_
          refine lv_ior hx hb dX8_fresh_88 ?_
          refine lv_topi (fun v2 ev2 => ?_)
          have h := nm_ap ev2 h
          refine lv_istore (lv' := [(4, .int v2), (0, .ref (a0 0)), (1, .int x1), (2, .int x2), (3, .int x3), (5, .int x5)]) hx hb dX8_fresh_89 hl (by decide) rfl (fun ls hl => ?_)
          obtain ⟨v3, ev3⟩ : ∃ y : Int32, y = x5 + (1 : Int32) := ⟨_, rfl⟩
          refine lv_iinc (v := v3) (lv' := [(5, .int v3), (4, .int v2), (0, .ref (a0 0)), (1, .int x1), (2, .int x2), (3, .int x3)]) hx hb dX8_fresh_91 hl (k := 5) rfl (by rw [ev3]; rfl) (by decide) rfl (fun ls hl => ?_)
          have h := nm_ap ev3 h
          refine lv_goto (tgt := 50) hx hb dX8_fresh_94 (by decide) ?_
          exact ih v2 v3 ls (lv_sub hl [2, 3, 4, 5, 1, 0] rfl) _ h K0
        · have h := if_f hc h
          refine lv_aload_n hx hb dX8_fresh_72 rfl (lv_at hl 0 rfl) ?_
          refine lv_iload hx hb dX8_fresh_73 (lv_at hl 5 rfl) ?_
          refine lv_aload_n hx hb dX8_fresh_75 rfl (lv_at hl 0 rfl) ?_
          refine va_get (D := D) (ci := 8) (v := .ref (a0 12)) (C := RX8) (T := TX8) (N := 27) hx hb hts hinX8 hown hK.1 hP 0 rfl rfl 11 (by decide) lkf40 (fun _ h9 => h9) rfl dX8_fresh_76 ?_
          refine lv_iconst (v := (0 : Int32)) hx hb dX8_fresh_79 (by decide) ?_
          refine iald (q0 := 0) (t0 := 0) (j := 0) hx hb hK hP 11 rfl rfl (vp_in_iff.mpr (by decide)) dX8_fresh_80 ?_
          obtain ⟨z4, hz4, h⟩ := bd_some h
          refine cR_V (As := [.int x5, .int (o0.2 11 0)]) (rest := [.int x4]) ⟨hx, hb, hml, hown, hts⟩ (c_X8_above l D cA a0 o0 x5 (o0.2 11 0) z4 hz4) (cwV 2 hts gX8_fresh_X8_above rfl rfl rfl hd_X8_above ⟨(Nat.le_of_ble_eq_true rfl), (Nat.le_of_ble_eq_true rfl)⟩) (recvK hK hP 0 8 rfl rfl) hK hP [0, 1, 2, 3, 4, 5, 6, 7, 8, 9, 10, 11, 12, 13, 14, 15, 16, 17, 18, 19, 20, 21, 22] rfl rfl hl.1 rfl (Nat.le_of_ble_eq_true rfl) dX8_fresh_81 ⟨(Nat.le_of_ble_eq_true rfl), (Nat.le_of_ble_eq_true rfl)⟩ ?_
          refine lv_goto (tgt := 88) hx hb dX8_fresh_84 (by decide) ?_
          refine lv_ior hx hb dX8_fresh_88 ?_
          refine lv_topi (fun v5 ev5 => ?_)
          have h := nm_ap ev5 h
          refine lv_istore (lv' := [(4, .int v5), (0, .ref (a0 0)), (1, .int x1), (2, .int x2), (3, .int x3), (5, .int x5)]) hx hb dX8_fresh_89 hl (by decide) rfl (fun ls hl => ?_)
          obtain ⟨v6, ev6⟩ : ∃ y : Int32, y = x5 + (1 : Int32) := ⟨_, rfl⟩
          refine lv_iinc (v := v6) (lv' := [(5, .int v6), (4, .int v5), (0, .ref (a0 0)), (1, .int x1), (2, .int x2), (3, .int x3)]) hx hb dX8_fresh_91 hl (k := 5) rfl (by rw [ev6]; rfl) (by decide) rfl (fun ls hl => ?_)
          have h := nm_ap ev6 h
          refine lv_goto (tgt := 50) hx hb dX8_fresh_94 (by decide) ?_
          exact ih v5 v6 ls (lv_sub hl [2, 3, 4, 5, 1, 0] rfl) _ h K0
  have LP104 : ∀ (x1 : Int32) (x3 : Int32) (x4 : Int32) (n : Nat) (x5 : Int32) (x6 : Int32) (ls : Array Slot) (_ : lv_has ls 8 [(0, .ref (a0 0)), (1, .int x1), (3, .int x3), (4, .int x4), (5, .int x5), (6, .int x6)]) (res : Int32) (_ : L_X8_fresh_104 x1 x3 x4 o0 n x5 x6 = some res) (_ : (∀ (ls : Array Slot), lv_has ls 8 [(3, .int x3), (5, .int res)] → W p l e rmX8_fresh s m args below meth c s.heap [] 0 0 Q (F0 m 193 ls []))), W p l e rmX8_fresh s m args below meth c s.heap [] 0 0 Q (F0 m 104 ls []) := by
    intro x1 x3 x4 n
    induction n with
    | zero =>
      intro x5 x6 ls hl res h K0
      exact absurd h (fun q : (none : Option (Int32)) = some res => by cases q)
    | succ n ih =>
      intro x5 x6 ls hl res h K0
      have h : L_X8_fresh_104_step x1 x3 x4 o0 (L_X8_fresh_104 x1 x3 x4 o0 n) x5 x6 = some res := h
      unfold L_X8_fresh_104_step at h
      have JP104_153 : ∀ (k0 : Int32) (x5 : Int32) (x6 : Int32) (ls : Array Slot) (_ : lv_has ls 8 [(0, .ref (a0 0)), (1, .int x1), (3, .int x3), (4, .int x4), (5, .int x5), (6, .int x6)]) (_ : J_X8_fresh_153l104 (L_X8_fresh_104 x1 x3 x4 o0 n) k0 x1 x3 x4 x5 x6 o0 = some res), W p l e rmX8_fresh s m args below meth c s.heap [] 0 0 Q (F0 m 153 ls [.int k0]) := by
        intro k0 x5 x6 ls hl h
        unfold J_X8_fresh_153l104 at h
        refine lv_istore (lv' := [(7, .int k0), (0, .ref (a0 0)), (1, .int x1), (3, .int x3), (4, .int x4), (5, .int x5), (6, .int x6)]) hx hb dX8_fresh_153 hl (by decide) rfl (fun ls hl => ?_)
        refine lv_iload hx hb dX8_fresh_155 (lv_at hl 0 rfl) ?_
        refine lv_if_eq (tgt := 183) hx hb dX8_fresh_157 (by decide) (fun hc => ?_) (fun hc => ?_)
        · have h := if_t hc h
          refine lv_iload hx hb dX8_fresh_183 (lv_at hl 5 rfl) ?_
          refine lv_istore (lv' := [(5, .int x5), (7, .int k0), (0, .ref (a0 0)), (1, .int x1), (3, .int x3), (4, .int x4), (6, .int x6)]) hx hb dX8_fresh_185 hl (by decide) rfl (fun ls hl => ?_)
          obtain ⟨v1, ev1⟩ : ∃ y : Int32, y = x6 + (1 : Int32) := ⟨_, rfl⟩
          refine lv_iinc (v := v1) (lv' := [(6, .int v1), (5, .int x5), (7, .int k0), (0, .ref (a0 0)), (1, .int x1), (3, .int x3), (4, .int x4)]) hx hb dX8_fresh_187 hl (k := 6) rfl (by rw [ev1]; rfl) (by decide) rfl (fun ls hl => ?_)
          have h := nm_ap ev1 h
          refine lv_goto (tgt := 104) hx hb dX8_fresh_190 (by decide) ?_
          exact ih x5 v1 ls (lv_sub hl [3, 4, 5, 6, 1, 0] rfl) _ h K0
        · have h := if_f hc h
          refine lv_iload hx hb dX8_fresh_160 (lv_at hl 5 rfl) ?_
          refine lv_if_lt (tgt := 178) hx hb dX8_fresh_162 (by decide) (fun hc => ?_) (fun hc => ?_)
          · have h := if_t hc h
            refine lv_iload hx hb dX8_fresh_178 (lv_at hl 6 rfl) ?_
            refine lv_goto (tgt := 185) hx hb dX8_fresh_180 (by decide) ?_
            refine lv_istore (lv' := [(5, .int x6), (7, .int k0), (0, .ref (a0 0)), (1, .int x1), (3, .int x3), (4, .int x4), (6, .int x6)]) hx hb dX8_fresh_185 hl (by decide) rfl (fun ls hl => ?_)
            obtain ⟨v2, ev2⟩ : ∃ y : Int32, y = x6 + (1 : Int32) := ⟨_, rfl⟩
            refine lv_iinc (v := v2) (lv' := [(6, .int v2), (5, .int x6), (7, .int k0), (0, .ref (a0 0)), (1, .int x1), (3, .int x3), (4, .int x4)]) hx hb dX8_fresh_187 hl (k := 6) rfl (by rw [ev2]; rfl) (by decide) rfl (fun ls hl => ?_)
            have h := nm_ap ev2 h
            refine lv_goto (tgt := 104) hx hb dX8_fresh_190 (by decide) ?_
            exact ih x6 v2 ls (lv_sub hl [3, 4, 5, 6, 1, 0] rfl) _ h K0
          · have h := if_f hc h
            refine lv_iload hx hb dX8_fresh_165 (lv_at hl 6 rfl) ?_
            obtain ⟨z3, hz3, h⟩ := bd_some h
            refine cR_S (As := [.int x6]) (rest := []) ⟨hx, hb, hml, hown, hts⟩ (c_X8_ropeOf l D cA  x6 z3 hz3) (va_cwS 1 hts gX8_fresh_X8_ropeOf rfl rfl rfl hd_X8_ropeOf.2 ⟨(Nat.le_of_ble_eq_true rfl), (Nat.le_of_ble_eq_true rfl)⟩) hK hP [] rfl rfl hl.1 rfl (Nat.le_of_ble_eq_true rfl) dX8_fresh_167 ⟨(Nat.le_of_ble_eq_true rfl), (Nat.le_of_ble_eq_true rfl)⟩ ?_
            refine lv_iload hx hb dX8_fresh_170 (lv_at hl 5 rfl) ?_
            obtain ⟨z4, hz4, h⟩ := bd_some h
            refine cR_S (As := [.int x5]) (rest := [.int z3]) ⟨hx, hb, hml, hown, hts⟩ (c_X8_ropeOf l D cA  x5 z4 hz4) (va_cwS 1 hts gX8_fresh_X8_ropeOf rfl rfl rfl hd_X8_ropeOf.2 ⟨(Nat.le_of_ble_eq_true rfl), (Nat.le_of_ble_eq_true rfl)⟩) hK hP [] rfl rfl hl.1 rfl (Nat.le_of_ble_eq_true rfl) dX8_fresh_172 ⟨(Nat.le_of_ble_eq_true rfl), (Nat.le_of_ble_eq_true rfl)⟩ ?_
            refine lv_icmp_ge (tgt := 183) hx hb dX8_fresh_175 (by decide) (fun hc => ?_) (fun hc => ?_)
            · have h := if_t hc h
              refine lv_iload hx hb dX8_fresh_183 (lv_at hl 5 rfl) ?_
              refine lv_istore (lv' := [(5, .int x5), (7, .int k0), (0, .ref (a0 0)), (1, .int x1), (3, .int x3), (4, .int x4), (6, .int x6)]) hx hb dX8_fresh_185 hl (by decide) rfl (fun ls hl => ?_)
              obtain ⟨v5, ev5⟩ : ∃ y : Int32, y = x6 + (1 : Int32) := ⟨_, rfl⟩
              refine lv_iinc (v := v5) (lv' := [(6, .int v5), (5, .int x5), (7, .int k0), (0, .ref (a0 0)), (1, .int x1), (3, .int x3), (4, .int x4)]) hx hb dX8_fresh_187 hl (k := 6) rfl (by rw [ev5]; rfl) (by decide) rfl (fun ls hl => ?_)
              have h := nm_ap ev5 h
              refine lv_goto (tgt := 104) hx hb dX8_fresh_190 (by decide) ?_
              exact ih x5 v5 ls (lv_sub hl [3, 4, 5, 6, 1, 0] rfl) _ h K0
            · have h := if_f hc h
              refine lv_iload hx hb dX8_fresh_178 (lv_at hl 6 rfl) ?_
              refine lv_goto (tgt := 185) hx hb dX8_fresh_180 (by decide) ?_
              refine lv_istore (lv' := [(5, .int x6), (7, .int k0), (0, .ref (a0 0)), (1, .int x1), (3, .int x3), (4, .int x4), (6, .int x6)]) hx hb dX8_fresh_185 hl (by decide) rfl (fun ls hl => ?_)
              obtain ⟨v6, ev6⟩ : ∃ y : Int32, y = x6 + (1 : Int32) := ⟨_, rfl⟩
              refine lv_iinc (v := v6) (lv' := [(6, .int v6), (5, .int x6), (7, .int k0), (0, .ref (a0 0)), (1, .int x1), (3, .int x3), (4, .int x4)]) hx hb dX8_fresh_187 hl (k := 6) rfl (by rw [ev6]; rfl) (by decide) rfl (fun ls hl => ?_)
              have h := nm_ap ev6 h
              refine lv_goto (tgt := 104) hx hb dX8_fresh_190 (by decide) ?_
              exact ih x6 v6 ls (lv_sub hl [3, 4, 5, 6, 1, 0] rfl) _ h K0
      have JP104_152 : ∀ (x5 : Int32) (x6 : Int32) (ls : Array Slot) (_ : lv_has ls 8 [(0, .ref (a0 0)), (1, .int x1), (3, .int x3), (4, .int x4), (5, .int x5), (6, .int x6)]) (_ : J_X8_fresh_152l104 (L_X8_fresh_104 x1 x3 x4 o0 n) x1 x3 x4 x5 x6 o0 = some res), W p l e rmX8_fresh s m args below meth c s.heap [] 0 0 Q (F0 m 152 ls []) := by
        intro x5 x6 ls hl h
        unfold J_X8_fresh_152l104 at h
        refine lv_iconst (v := (0 : Int32)) hx hb dX8_fresh_152 (by decide) ?_
        exact JP104_153 (0 : Int32) x5 x6 ls (lv_sub hl [0, 1, 2, 3, 4, 5] rfl) h
      refine lv_iload hx hb dX8_fresh_104 (lv_at hl 5 rfl) ?_
      refine lv_iconst (v := (1 : Int32)) hx hb dX8_fresh_106 (by decide) ?_
      refine lv_aload_n hx hb dX8_fresh_107 rfl (lv_at hl 0 rfl) ?_
      refine va_get (D := D) (ci := 8) (v := .ref (a0 6)) (C := RX8) (T := TX8) (N := 27) hx hb hts hinX8 hown hK.1 hP 0 rfl rfl 5 (by decide) lkf22 (fun _ h9 => h9) rfl dX8_fresh_108 ?_
      refine lv_iconst (v := (0 : Int32)) hx hb dX8_fresh_111 (by decide) ?_
      refine iald (q0 := 0) (t0 := 0) (j := 0) hx hb hK hP 5 rfl rfl (vp_in_iff.mpr (by decide)) dX8_fresh_112 ?_
      refine lv_ishl hx hb dX8_fresh_113 ?_
      refine lv_icmp_ge (tgt := 193) hx hb dX8_fresh_114 (by decide) (fun hc => ?_) (fun hc => ?_)
      · have h := if_t hc h
        cases h
        exact K0 _ (lv_sub hl [2, 4] rfl)
      · have h := if_f hc h
        refine lv_iload hx hb dX8_fresh_117 (lv_at hl 5 rfl) ?_
        obtain ⟨z1, hz1, h⟩ := bd_some h
        refine cR_S (As := [.int x6]) (rest := []) ⟨hx, hb, hml, hown, hts⟩ (c_X8_bits l D cA  x6 z1 hz1) (va_cwS 1 hts gX8_fresh_X8_bits rfl rfl rfl hd_X8_bits.2 ⟨(Nat.le_of_ble_eq_true rfl), (Nat.le_of_ble_eq_true rfl)⟩) hK hP [] rfl rfl hl.1 rfl (Nat.le_of_ble_eq_true rfl) dX8_fresh_119 ⟨(Nat.le_of_ble_eq_true rfl), (Nat.le_of_ble_eq_true rfl)⟩ ?_
        refine lv_iload_n hx hb dX8_fresh_122 rfl (lv_at hl 1 rfl) ?_
        refine lv_icmp_ne (tgt := 152) hx hb dX8_fresh_123 (by decide) (fun hc => ?_) (fun hc => ?_)
        · have h := if_f hc h
          exact JP104_152 x5 x6 ls (lv_sub hl [0, 1, 2, 3, 4, 5] rfl) h
        · have h := if_t hc h
          refine lv_iload hx hb dX8_fresh_126 (lv_at hl 5 rfl) ?_
          refine lv_aload_n hx hb dX8_fresh_128 rfl (lv_at hl 0 rfl) ?_
          refine va_get (D := D) (ci := 8) (v := .ref (a0 12)) (C := RX8) (T := TX8) (N := 27) hx hb hts hinX8 hown hK.1 hP 0 rfl rfl 11 (by decide) lkf40 (fun _ h9 => h9) rfl dX8_fresh_129 ?_
          refine lv_iconst (v := (0 : Int32)) hx hb dX8_fresh_132 (by decide) ?_
          refine iald (q0 := 0) (t0 := 0) (j := 0) hx hb hK hP 11 rfl rfl (vp_in_iff.mpr (by decide)) dX8_fresh_133 ?_
          refine lv_iconst (v := (-1 : Int32)) hx hb dX8_fresh_134 (by decide) ?_
          refine lv_ixor hx hb dX8_fresh_135 ?_
          refine lv_iand hx hb dX8_fresh_136 ?_
          refine lv_if_ne (tgt := 152) hx hb dX8_fresh_137 (by decide) (fun hc => ?_) (fun hc => ?_)
          · have h := if_f hc h
            exact JP104_152 x5 x6 ls (lv_sub hl [0, 1, 2, 3, 4, 5] rfl) h
          · have h := if_t hc h
            refine lv_iload hx hb dX8_fresh_140 (lv_at hl 5 rfl) ?_
            refine lv_iload hx hb dX8_fresh_142 (lv_at hl 3 rfl) ?_
            refine lv_iand hx hb dX8_fresh_144 ?_
            refine lv_if_ne (tgt := 152) hx hb dX8_fresh_145 (by decide) (fun hc => ?_) (fun hc => ?_)
            · have h := if_f hc h
              exact JP104_152 x5 x6 ls (lv_sub hl [0, 1, 2, 3, 4, 5] rfl) h
            · have h := if_t hc h
              refine lv_iconst (v := (1 : Int32)) hx hb dX8_fresh_148 (by decide) ?_
              refine lv_goto (tgt := 153) hx hb dX8_fresh_149 (by decide) ?_
              exact JP104_153 (1 : Int32) x5 x6 ls (lv_sub hl [0, 1, 2, 3, 4, 5] rfl) h
  refine lv_iload_n hx hb dX8_fresh_0 rfl (lv_at hl 1 rfl) ?_
  refine lv_i2l hx hb dX8_fresh_1 rfl ?_
  refine lv_lconst (v := (1 : Int64)) hx hb dX8_fresh_2 (by decide) ?_
  refine lv_ldc2 hx hb hown lkc80 dX8_fresh_3 ?_
  obtain ⟨z1, hz1, h⟩ := bd_some h
  refine cR_S (As := [.long x1.toInt64, .long (1 : Int64), .long (8 : Int64)]) (rest := []) ⟨hx, hb, hml, hown, hts⟩ (c_X8_in l D cA  x1.toInt64 (1 : Int64) (8 : Int64) z1 hz1) (va_cwS 3 hts gX8_fresh_X8_in rfl rfl rfl hd_X8_in.2 ⟨(Nat.le_of_ble_eq_true rfl), (Nat.le_of_ble_eq_true rfl)⟩) hK hP [] rfl rfl hl.1 rfl (Nat.le_of_ble_eq_true rfl) dX8_fresh_6 ⟨(Nat.le_of_ble_eq_true rfl), (Nat.le_of_ble_eq_true rfl)⟩ ?_
  refine lv_if_eq (tgt := 42) hx hb dX8_fresh_9 (by decide) (fun hc => ?_) (fun hc => ?_)
  · have h := if_t hc h
    refine lv_iconst (v := (-1 : Int32)) hx hb dX8_fresh_42 (by decide) ?_
    cases h
    exact hend _ _ dX8_fresh_43
  · have h := if_f hc h
    refine lv_iload_n hx hb dX8_fresh_12 rfl (lv_at hl 2 rfl) ?_
    refine lv_i2l hx hb dX8_fresh_13 rfl ?_
    refine lv_lconst (v := (0 : Int64)) hx hb dX8_fresh_14 (by decide) ?_
    refine lv_iconst (v := (1 : Int32)) hx hb dX8_fresh_15 (by decide) ?_
    refine lv_aload_n hx hb dX8_fresh_16 rfl (lv_at hl 0 rfl) ?_
    refine va_get (D := D) (ci := 8) (v := .ref (a0 6)) (C := RX8) (T := TX8) (N := 27) hx hb hts hinX8 hown hK.1 hP 0 rfl rfl 5 (by decide) lkf22 (fun _ h9 => h9) rfl dX8_fresh_17 ?_
    refine lv_iconst (v := (0 : Int32)) hx hb dX8_fresh_20 (by decide) ?_
    refine iald (q0 := 0) (t0 := 0) (j := 0) hx hb hK hP 5 rfl rfl (vp_in_iff.mpr (by decide)) dX8_fresh_21 ?_
    refine lv_ishl hx hb dX8_fresh_22 ?_
    refine lv_iconst (v := (1 : Int32)) hx hb dX8_fresh_23 (by decide) ?_
    refine lv_isub hx hb dX8_fresh_24 ?_
    refine lv_i2l hx hb dX8_fresh_25 rfl ?_
    obtain ⟨z2, hz2, h⟩ := bd_some h
    refine cR_S (As := [.long x2.toInt64, .long (0 : Int64), .long ((((1 : Int32) <<< ((o0.2 5 0) &&& 31)) - (1 : Int32)).toInt64)]) (rest := []) ⟨hx, hb, hml, hown, hts⟩ (c_X8_in l D cA  x2.toInt64 (0 : Int64) ((((1 : Int32) <<< ((o0.2 5 0) &&& 31)) - (1 : Int32)).toInt64) z2 hz2) (va_cwS 3 hts gX8_fresh_X8_in rfl rfl rfl hd_X8_in.2 ⟨(Nat.le_of_ble_eq_true rfl), (Nat.le_of_ble_eq_true rfl)⟩) hK hP [] rfl rfl hl.1 rfl (Nat.le_of_ble_eq_true rfl) dX8_fresh_26 ⟨(Nat.le_of_ble_eq_true rfl), (Nat.le_of_ble_eq_true rfl)⟩ ?_
    refine lv_if_eq (tgt := 42) hx hb dX8_fresh_29 (by decide) (fun hc => ?_) (fun hc => ?_)
    · have h := if_t hc h
      refine lv_iconst (v := (-1 : Int32)) hx hb dX8_fresh_42 (by decide) ?_
      cases h
      exact hend _ _ dX8_fresh_43
    · have h := if_f hc h
      refine lv_iload_n hx hb dX8_fresh_32 rfl (lv_at hl 3 rfl) ?_
      refine lv_i2l hx hb dX8_fresh_33 rfl ?_
      refine lv_lconst (v := (0 : Int64)) hx hb dX8_fresh_34 (by decide) ?_
      refine lv_lconst (v := (1 : Int64)) hx hb dX8_fresh_35 (by decide) ?_
      obtain ⟨z3, hz3, h⟩ := bd_some h
      refine cR_S (As := [.long x3.toInt64, .long (0 : Int64), .long (1 : Int64)]) (rest := []) ⟨hx, hb, hml, hown, hts⟩ (c_X8_in l D cA  x3.toInt64 (0 : Int64) (1 : Int64) z3 hz3) (va_cwS 3 hts gX8_fresh_X8_in rfl rfl rfl hd_X8_in.2 ⟨(Nat.le_of_ble_eq_true rfl), (Nat.le_of_ble_eq_true rfl)⟩) hK hP [] rfl rfl hl.1 rfl (Nat.le_of_ble_eq_true rfl) dX8_fresh_36 ⟨(Nat.le_of_ble_eq_true rfl), (Nat.le_of_ble_eq_true rfl)⟩ ?_
      refine lv_if_ne (tgt := 44) hx hb dX8_fresh_39 (by decide) (fun hc => ?_) (fun hc => ?_)
      · have h := if_f hc h
        refine lv_iload_n hx hb dX8_fresh_44 rfl (lv_at hl 2 rfl) ?_
        refine lv_istore (lv' := [(4, .int x2), (0, .ref (a0 0)), (1, .int x1), (2, .int x2), (3, .int x3)]) hx hb dX8_fresh_45 hl (by decide) rfl (fun ls hl => ?_)
        refine lv_iconst (v := (0 : Int32)) hx hb dX8_fresh_47 (by decide) ?_
        refine lv_istore (lv' := [(5, .int (0 : Int32)), (4, .int x2), (0, .ref (a0 0)), (1, .int x1), (2, .int x2), (3, .int x3)]) hx hb dX8_fresh_48 hl (by decide) rfl (fun ls hl => ?_)
        obtain ⟨z4, hz4, h⟩ := bd_some h
        refine LP50 x1 x2 x3 512 x2 (0 : Int32) ls (lv_sub hl [2, 3, 4, 5, 1, 0] rfl) _ hz4 ?_
        · intro ls hl
          refine lv_bipush (v := (-4 : Int32)) hx hb dX8_fresh_97 (by decide) ?_
          refine lv_istore (lv' := [(5, .int (-4 : Int32)), (0, .ref (a0 0)), (1, .int x1), (3, .int x3), (4, .int z4)]) hx hb dX8_fresh_99 hl (by decide) rfl (fun ls hl => ?_)
          refine lv_iconst (v := (0 : Int32)) hx hb dX8_fresh_101 (by decide) ?_
          refine lv_istore (lv' := [(6, .int (0 : Int32)), (5, .int (-4 : Int32)), (0, .ref (a0 0)), (1, .int x1), (3, .int x3), (4, .int z4)]) hx hb dX8_fresh_102 hl (by decide) rfl (fun ls hl => ?_)
          obtain ⟨z5, hz5, h⟩ := bd_some h
          refine LP104 x1 x3 z4 512 (-4 : Int32) (0 : Int32) ls (lv_sub hl [2, 3, 4, 5, 1, 0] rfl) _ hz5 ?_
          · intro ls hl
            refine lv_iload hx hb dX8_fresh_193 (lv_at hl 1 rfl) ?_
            refine lv_if_ge (tgt := 203) hx hb dX8_fresh_195 (by decide) (fun hc => ?_) (fun hc => ?_)
            · have h := if_t hc h
              refine lv_iload_n hx hb dX8_fresh_203 rfl (lv_at hl 0 rfl) ?_
              refine lv_if_ne (tgt := 212) hx hb dX8_fresh_204 (by decide) (fun hc => ?_) (fun hc => ?_)
              · have h := if_f hc h
                refine lv_iload hx hb dX8_fresh_212 (lv_at hl 1 rfl) ?_
                obtain ⟨z6, hz6, h⟩ := bd_some h
                refine cR_S (As := [.int z5]) (rest := []) ⟨hx, hb, hml, hown, hts⟩ (c_X8_ropeOf l D cA  z5 z6 hz6) (va_cwS 1 hts gX8_fresh_X8_ropeOf rfl rfl rfl hd_X8_ropeOf.2 ⟨(Nat.le_of_ble_eq_true rfl), (Nat.le_of_ble_eq_true rfl)⟩) hK hP [] rfl rfl hl.1 rfl (Nat.le_of_ble_eq_true rfl) dX8_fresh_214 ⟨(Nat.le_of_ble_eq_true rfl), (Nat.le_of_ble_eq_true rfl)⟩ ?_
                cases h
                exact hend _ _ dX8_fresh_217
              · have h := if_t hc h
                refine lv_iload hx hb dX8_fresh_207 (lv_at hl 1 rfl) ?_
                refine lv_goto (tgt := 217) hx hb dX8_fresh_209 (by decide) ?_
                cases h
                exact hend _ _ dX8_fresh_217
            · have h := if_f hc h
              refine lv_bipush (v := (-4 : Int32)) hx hb dX8_fresh_198 (by decide) ?_
              refine lv_goto (tgt := 217) hx hb dX8_fresh_200 (by decide) ?_
              cases h
              exact hend _ _ dX8_fresh_217
      · have h := if_t hc h
        refine lv_iconst (v := (-1 : Int32)) hx hb dX8_fresh_42 (by decide) ?_
        cases h
        exact hend _ _ dX8_fresh_43
abbrev rmX8_orders : Room := ({ frames := 1, cells := 0, slots := 0, locals := 21 } : Room)
set_option maxHeartbeats 4000000 in
set_option maxRecDepth 100000 in
theorem c_X8_orders (l : Launch) (D : va_G) (cA : ClassId) (a0 : (Nat → Nat)) (o0 : Ob) (r : Int32) (o0_ : Ob) (h : f_X8_orders o0 = some (r, o0_)) : ConW l yX8_orders wsX8_orders rmX8_orders D cA [.ref (a0 0)] (wX8 cA a0 o0) r (wX8 cA a0 o0_) := by
  refine ConW.enter (cc := cX8_orders) (maxL := 5) (by decide) rfl (Nat.le_of_ble_eq_true rfl) ?_
  intro p e s m args below meth c Q A hx hb hml hown hts hK hP hD hA hend ls hl
  have hS : va_S A s.heap s.heap [] := va_S.rf
  have hl : lv_has ls 5 [(0, .ref (a0 0))] := hl
  unfold f_X8_orders at h
  have lkf64 := hts (.fieldLink RX8 64 "TiedToTownModel" "ordersOf" "[I") (List.mem_of_getElem? (i := 1) rfl)
  have hinX8 : ∀ w ∈ wsX80, w ∈ wsX8_orders := fun w h => List.mem_cons_of_mem _ (List.mem_append_right _ h)
  have lkf22 := hts (.fieldLink RX8 22 "TiedToTownModel" "many" "[I") (List.mem_of_getElem? (i := 2) rfl)
  have lkf31 := hts (.fieldLink RX8 31 "TiedToTownModel" "through" "[I") (List.mem_of_getElem? (i := 4) rfl)
  have lkf40 := hts (.fieldLink RX8 40 "TiedToTownModel" "tied" "[I") (List.mem_of_getElem? (i := 3) rfl)
  have LP70 : ∀ (x1 : Int32) (x2 : Int32) (o0 : Ob) (n : Nat) (x3 : Int32) (x4 : Int32) (H : Heap) (locs : List Loc) (_ : va_P D vwCl (wX8 cA a0 o0) H) (_ : va_D A (wX8 cA a0 o0)) (_ : va_S A s.heap H locs) (ls : Array Slot) (_ : lv_has ls 5 [(0, .ref (a0 0)), (1, .int x1), (2, .int x2), (3, .int x3), (4, .int x4)]) (res : Int32) (_ : L_X8_orders_70 x1 x2 o0 n x3 x4 = some res) (_ : (∀ (H : Heap) (locs : List Loc) (_ : va_P D vwCl (wX8 cA a0 o0) H) (_ : va_D A (wX8 cA a0 o0)) (_ : va_S A s.heap H locs) (ls : Array Slot), lv_has ls 5 [(0, .ref (a0 0)), (1, .int x1), (2, .int x2), (3, .int res)] → W p l e rmX8_orders s m args below meth c H locs 0 0 Q (F0 m 120 ls []))), W p l e rmX8_orders s m args below meth c H locs 0 0 Q (F0 m 70 ls []) := by
    intro x1 x2 o0 n
    induction n with
    | zero =>
      intro x3 x4 H locs hP hD hS ls hl res h K0
      exact absurd h (fun q : (none : Option (Int32)) = some res => by cases q)
    | succ n ih =>
      intro x3 x4 H locs hP hD hS ls hl res h K0
      have h : L_X8_orders_70_step x1 x2 o0 (L_X8_orders_70 x1 x2 o0 n) x3 x4 = some res := h
      unfold L_X8_orders_70_step at h
      refine lv_iload hx hb dX8_orders_70 (lv_at hl 4 rfl) ?_
      refine lv_aload_n hx hb dX8_orders_72 rfl (lv_at hl 0 rfl) ?_
      refine va_get (D := D) (ci := 8) (v := .ref (a0 6)) (C := RX8) (T := TX8) (N := 27) hx hb hts hinX8 hown hK.1 hP 0 rfl rfl 5 (by decide) lkf22 (fun _ h9 => h9) rfl dX8_orders_73 ?_
      refine lv_iconst (v := (0 : Int32)) hx hb dX8_orders_76 (by decide) ?_
      refine iald (q0 := 0) (t0 := 0) (j := 0) hx hb hK hP 5 rfl rfl (vp_in_iff.mpr (by decide)) dX8_orders_77 ?_
      refine lv_icmp_ge (tgt := 120) hx hb dX8_orders_78 (by decide) (fun hc => ?_) (fun hc => ?_)
      · have h := if_t hc h
        cases h
        exact K0 _ _ hP hD hS _ (lv_sub hl [0, 1, 2, 3] rfl)
      · have h := if_f hc h
        refine lv_iload_n hx hb dX8_orders_81 rfl (lv_at hl 3 rfl) ?_
        refine lv_if_eq (tgt := 112) hx hb dX8_orders_82 (by decide) (fun hc => ?_) (fun hc => ?_)
        · have h := if_t hc h
          refine lv_iconst (v := (0 : Int32)) hx hb dX8_orders_112 (by decide) ?_
          refine lv_istore_n (lv' := [(3, .int (0 : Int32)), (0, .ref (a0 0)), (1, .int x1), (2, .int x2), (4, .int x4)]) hx hb dX8_orders_113 rfl hl (by decide) rfl (fun ls hl => ?_)
          obtain ⟨v1, ev1⟩ : ∃ y : Int32, y = x4 + (1 : Int32) := ⟨_, rfl⟩
          refine lv_iinc (v := v1) (lv' := [(4, .int v1), (3, .int (0 : Int32)), (0, .ref (a0 0)), (1, .int x1), (2, .int x2)]) hx hb dX8_orders_114 hl (k := 4) rfl (by rw [ev1]; rfl) (by decide) rfl (fun ls hl => ?_)
          have h := nm_ap ev1 h
          refine lv_goto (tgt := 70) hx hb dX8_orders_117 (by decide) ?_
          exact ih (0 : Int32) v1 _ _ hP hD hS ls (lv_sub hl [2, 3, 4, 1, 0] rfl) _ h K0
        · have h := if_f hc h
          refine lv_iload_n hx hb dX8_orders_85 rfl (lv_at hl 1 rfl) ?_
          refine lv_iload hx hb dX8_orders_86 (lv_at hl 4 rfl) ?_
          obtain ⟨z2, hz2, h⟩ := bd_some h
          refine cR_S (As := [.int x1, .int x4]) (rest := []) ⟨hx, hb, hml, hown, hts⟩ (c_X8_has l D cA  x1 x4 z2 hz2) (va_cwS 2 hts gX8_orders_X8_has rfl rfl rfl hd_X8_has.2 ⟨(Nat.le_of_ble_eq_true rfl), (Nat.le_of_ble_eq_true rfl)⟩) hK hP [] rfl rfl hl.1 rfl (Nat.le_of_ble_eq_true rfl) dX8_orders_88 ⟨(Nat.le_of_ble_eq_true rfl), (Nat.le_of_ble_eq_true rfl)⟩ ?_
          refine lv_if_eq (tgt := 108) hx hb dX8_orders_91 (by decide) (fun hc => ?_) (fun hc => ?_)
          · have h := if_t hc h
            refine lv_iconst (v := (1 : Int32)) hx hb dX8_orders_108 (by decide) ?_
            refine lv_goto (tgt := 113) hx hb dX8_orders_109 (by decide) ?_
            refine lv_istore_n (lv' := [(3, .int (1 : Int32)), (0, .ref (a0 0)), (1, .int x1), (2, .int x2), (4, .int x4)]) hx hb dX8_orders_113 rfl hl (by decide) rfl (fun ls hl => ?_)
            obtain ⟨v3, ev3⟩ : ∃ y : Int32, y = x4 + (1 : Int32) := ⟨_, rfl⟩
            refine lv_iinc (v := v3) (lv' := [(4, .int v3), (3, .int (1 : Int32)), (0, .ref (a0 0)), (1, .int x1), (2, .int x2)]) hx hb dX8_orders_114 hl (k := 4) rfl (by rw [ev3]; rfl) (by decide) rfl (fun ls hl => ?_)
            have h := nm_ap ev3 h
            refine lv_goto (tgt := 70) hx hb dX8_orders_117 (by decide) ?_
            exact ih (1 : Int32) v3 _ _ hP hD hS ls (lv_sub hl [2, 3, 4, 1, 0] rfl) _ h K0
          · have h := if_f hc h
            refine lv_aload_n hx hb dX8_orders_94 rfl (lv_at hl 0 rfl) ?_
            refine va_get (D := D) (ci := 8) (v := .ref (a0 9)) (C := RX8) (T := TX8) (N := 27) hx hb hts hinX8 hown hK.1 hP 0 rfl rfl 8 (by decide) lkf31 (fun _ h9 => h9) rfl dX8_orders_95 ?_
            refine lv_iload hx hb dX8_orders_98 (lv_at hl 4 rfl) ?_
            obtain ⟨hi4, h⟩ := gd_some h
            refine iald (q0 := 0) (t0 := 0) (j := x4.toNatClampNeg) hx hb hK hP 8 rfl rfl (ck_in hi4) dX8_orders_100 ?_
            refine lv_iload_n hx hb dX8_orders_101 rfl (lv_at hl 2 rfl) ?_
            obtain ⟨z5, hz5, h⟩ := bd_some h
            refine cR_S (As := [.int (o0.2 8 x4.toNatClampNeg), .int x2]) (rest := []) ⟨hx, hb, hml, hown, hts⟩ (c_X8_has l D cA  (o0.2 8 x4.toNatClampNeg) x2 z5 hz5) (va_cwS 2 hts gX8_orders_X8_has rfl rfl rfl hd_X8_has.2 ⟨(Nat.le_of_ble_eq_true rfl), (Nat.le_of_ble_eq_true rfl)⟩) hK hP [] rfl rfl hl.1 rfl (Nat.le_of_ble_eq_true rfl) dX8_orders_102 ⟨(Nat.le_of_ble_eq_true rfl), (Nat.le_of_ble_eq_true rfl)⟩ ?_
            refine lv_if_ne (tgt := 112) hx hb dX8_orders_105 (by decide) (fun hc => ?_) (fun hc => ?_)
            · have h := if_f hc h
              refine lv_iconst (v := (0 : Int32)) hx hb dX8_orders_112 (by decide) ?_
              refine lv_istore_n (lv' := [(3, .int (0 : Int32)), (0, .ref (a0 0)), (1, .int x1), (2, .int x2), (4, .int x4)]) hx hb dX8_orders_113 rfl hl (by decide) rfl (fun ls hl => ?_)
              obtain ⟨v6, ev6⟩ : ∃ y : Int32, y = x4 + (1 : Int32) := ⟨_, rfl⟩
              refine lv_iinc (v := v6) (lv' := [(4, .int v6), (3, .int (0 : Int32)), (0, .ref (a0 0)), (1, .int x1), (2, .int x2)]) hx hb dX8_orders_114 hl (k := 4) rfl (by rw [ev6]; rfl) (by decide) rfl (fun ls hl => ?_)
              have h := nm_ap ev6 h
              refine lv_goto (tgt := 70) hx hb dX8_orders_117 (by decide) ?_
              exact ih (0 : Int32) v6 _ _ hP hD hS ls (lv_sub hl [2, 3, 4, 1, 0] rfl) _ h K0
            · have h := if_t hc h
              refine lv_iconst (v := (1 : Int32)) hx hb dX8_orders_108 (by decide) ?_
              refine lv_goto (tgt := 113) hx hb dX8_orders_109 (by decide) ?_
              refine lv_istore_n (lv' := [(3, .int (1 : Int32)), (0, .ref (a0 0)), (1, .int x1), (2, .int x2), (4, .int x4)]) hx hb dX8_orders_113 rfl hl (by decide) rfl (fun ls hl => ?_)
              obtain ⟨v7, ev7⟩ : ∃ y : Int32, y = x4 + (1 : Int32) := ⟨_, rfl⟩
              refine lv_iinc (v := v7) (lv' := [(4, .int v7), (3, .int (1 : Int32)), (0, .ref (a0 0)), (1, .int x1), (2, .int x2)]) hx hb dX8_orders_114 hl (k := 4) rfl (by rw [ev7]; rfl) (by decide) rfl (fun ls hl => ?_)
              have h := nm_ap ev7 h
              refine lv_goto (tgt := 70) hx hb dX8_orders_117 (by decide) ?_
              exact ih (1 : Int32) v7 _ _ hP hD hS ls (lv_sub hl [2, 3, 4, 1, 0] rfl) _ h K0
  have LP30 : ∀ (x1 : Int32) (n : Nat) (x2 : Int32) (o0 : Ob) (H : Heap) (locs : List Loc) (_ : va_P D vwCl (wX8 cA a0 o0) H) (_ : va_D A (wX8 cA a0 o0)) (_ : va_S A s.heap H locs) (ls : Array Slot) (_ : lv_has ls 5 [(0, .ref (a0 0)), (1, .int x1), (2, .int x2)]) (res : Ob) (_ : L_X8_orders_30 x1 n x2 o0 = some res) (_ : (∀ (H : Heap) (locs : List Loc) (_ : va_P D vwCl (wX8 cA a0 res) H) (_ : va_D A (wX8 cA a0 res)) (_ : va_S A s.heap H locs) (ls : Array Slot), lv_has ls 5 [(0, .ref (a0 0)), (1, .int x1)] → W p l e rmX8_orders s m args below meth c H locs 0 0 Q (F0 m 155 ls []))), W p l e rmX8_orders s m args below meth c H locs 0 0 Q (F0 m 30 ls []) := by
    intro x1 n
    induction n with
    | zero =>
      intro x2 o0 H locs hP hD hS ls hl res h K0
      exact absurd h (fun q : (none : Option (Ob)) = some res => by cases q)
    | succ n ih =>
      intro x2 o0 H locs hP hD hS ls hl res h K0
      have h : L_X8_orders_30_step x1 (L_X8_orders_30 x1 n) x2 o0 = some res := h
      unfold L_X8_orders_30_step at h
      have JP30_66 : ∀ (k0 : Int32) (x2 : Int32) (o0 : Ob) (H : Heap) (locs : List Loc) (_ : va_P D vwCl (wX8 cA a0 o0) H) (_ : va_D A (wX8 cA a0 o0)) (_ : va_S A s.heap H locs) (ls : Array Slot) (_ : lv_has ls 5 [(0, .ref (a0 0)), (1, .int x1), (2, .int x2)]) (_ : J_X8_orders_66l30 (L_X8_orders_30 x1 n) k0 x1 x2 o0 = some res), W p l e rmX8_orders s m args below meth c H locs 0 0 Q (F0 m 66 ls [.int k0]) := by
        intro k0 x2 o0 H locs hP hD hS ls hl h
        unfold J_X8_orders_66l30 at h
        refine lv_istore_n (lv' := [(3, .int k0), (0, .ref (a0 0)), (1, .int x1), (2, .int x2)]) hx hb dX8_orders_66 rfl hl (by decide) rfl (fun ls hl => ?_)
        refine lv_iconst (v := (0 : Int32)) hx hb dX8_orders_67 (by decide) ?_
        refine lv_istore (lv' := [(4, .int (0 : Int32)), (3, .int k0), (0, .ref (a0 0)), (1, .int x1), (2, .int x2)]) hx hb dX8_orders_68 hl (by decide) rfl (fun ls hl => ?_)
        obtain ⟨z1, hz1, h⟩ := bd_some h
        refine LP70 x1 x2 o0 512 k0 (0 : Int32) _ _ hP hD hS ls (lv_sub hl [2, 3, 4, 1, 0] rfl) _ hz1 ?_
        · intro H locs hP hD hS ls hl
          refine lv_aload_n hx hb dX8_orders_120 rfl (lv_at hl 0 rfl) ?_
          refine va_get (D := D) (ci := 8) (v := .ref (a0 24)) (C := RX8) (T := TX8) (N := 27) hx hb hts hinX8 hown hK.1 hP 0 rfl rfl 23 (by decide) lkf64 (fun _ h9 => h9) rfl dX8_orders_121 ?_
          refine lv_iload_n hx hb dX8_orders_124 rfl (lv_at hl 1 rfl) ?_
          refine lv_dup2_11 hx hb dX8_orders_125 rfl rfl ?_
          obtain ⟨hi2, h⟩ := gd_some h
          refine iald (q0 := 0) (t0 := 0) (j := x1.toNatClampNeg) hx hb hK hP 19 rfl rfl (ck_in hi2) dX8_orders_126 ?_
          refine lv_iload_n hx hb dX8_orders_127 rfl (lv_at hl 3 rfl) ?_
          refine lv_if_eq (tgt := 146) hx hb dX8_orders_128 (by decide) (fun hc => ?_) (fun hc => ?_)
          · have h := if_t hc h
            refine lv_iconst (v := (0 : Int32)) hx hb dX8_orders_146 (by decide) ?_
            refine lv_iadd hx hb dX8_orders_147 ?_
            refine iast (j := x1.toNatClampNeg) (wn := (wX8 cA a0 (sA o0 23 x1.toNatClampNeg ((o0.2 23 x1.toNatClampNeg) + (0 : Int32))))) hx hb hK hP hD hS 19 rfl rfl (ck_in hi2) dX8_orders_148 rfl (fun H locs hP hD hS => ?_)
            obtain ⟨s3, es3⟩ : ∃ z, z = sA o0 23 x1.toNatClampNeg ((o0.2 23 x1.toNatClampNeg) + (0 : Int32)) := ⟨_, rfl⟩
            rw [← es3] at hP hD
            have h := nm_ap es3 h
            obtain ⟨v4, ev4⟩ : ∃ y : Int32, y = x2 + (1 : Int32) := ⟨_, rfl⟩
            refine lv_iinc (v := v4) (lv' := [(2, .int v4), (0, .ref (a0 0)), (1, .int x1), (3, .int z1)]) hx hb dX8_orders_149 hl (k := 2) rfl (by rw [ev4]; rfl) (by decide) rfl (fun ls hl => ?_)
            have h := nm_ap ev4 h
            refine lv_goto (tgt := 30) hx hb dX8_orders_152 (by decide) ?_
            exact ih v4 s3 _ _ hP hD hS ls (lv_sub hl [1, 2, 0] rfl) _ h K0
          · have h := if_f hc h
            refine lv_aload_n hx hb dX8_orders_131 rfl (lv_at hl 0 rfl) ?_
            refine va_get (D := D) (ci := 8) (v := .ref (a0 24)) (C := RX8) (T := TX8) (N := 27) hx hb hts hinX8 hown hK.1 hP 0 rfl rfl 23 (by decide) lkf64 (fun _ h9 => h9) rfl dX8_orders_132 ?_
            refine lv_iload_n hx hb dX8_orders_135 rfl (lv_at hl 1 rfl) ?_
            refine lv_iconst (v := (1 : Int32)) hx hb dX8_orders_136 (by decide) ?_
            refine lv_iload_n hx hb dX8_orders_137 rfl (lv_at hl 2 rfl) ?_
            refine lv_ishl hx hb dX8_orders_138 ?_
            refine lv_iconst (v := (-1 : Int32)) hx hb dX8_orders_139 (by decide) ?_
            refine lv_ixor hx hb dX8_orders_140 ?_
            refine lv_iand hx hb dX8_orders_141 ?_
            obtain ⟨hi5, h⟩ := gd_some h
            refine iald (q0 := 0) (t0 := 0) (j := (x1 &&& (((1 : Int32) <<< (x2 &&& 31)) ^^^ (-1 : Int32))).toNatClampNeg) hx hb hK hP 19 rfl rfl (ck_in hi5) dX8_orders_142 ?_
            refine lv_goto (tgt := 147) hx hb dX8_orders_143 (by decide) ?_
            refine lv_iadd hx hb dX8_orders_147 ?_
            refine iast (j := x1.toNatClampNeg) (wn := (wX8 cA a0 (sA o0 23 x1.toNatClampNeg ((o0.2 23 x1.toNatClampNeg) + (o0.2 23 (x1 &&& (((1 : Int32) <<< (x2 &&& 31)) ^^^ (-1 : Int32))).toNatClampNeg))))) hx hb hK hP hD hS 19 rfl rfl (ck_in hi2) dX8_orders_148 rfl (fun H locs hP hD hS => ?_)
            obtain ⟨s6, es6⟩ : ∃ z, z = sA o0 23 x1.toNatClampNeg ((o0.2 23 x1.toNatClampNeg) + (o0.2 23 (x1 &&& (((1 : Int32) <<< (x2 &&& 31)) ^^^ (-1 : Int32))).toNatClampNeg)) := ⟨_, rfl⟩
            rw [← es6] at hP hD
            have h := nm_ap es6 h
            obtain ⟨v7, ev7⟩ : ∃ y : Int32, y = x2 + (1 : Int32) := ⟨_, rfl⟩
            refine lv_iinc (v := v7) (lv' := [(2, .int v7), (0, .ref (a0 0)), (1, .int x1), (3, .int z1)]) hx hb dX8_orders_149 hl (k := 2) rfl (by rw [ev7]; rfl) (by decide) rfl (fun ls hl => ?_)
            have h := nm_ap ev7 h
            refine lv_goto (tgt := 30) hx hb dX8_orders_152 (by decide) ?_
            exact ih v7 s6 _ _ hP hD hS ls (lv_sub hl [1, 2, 0] rfl) _ h K0
      have JP30_65 : ∀ (x2 : Int32) (o0 : Ob) (H : Heap) (locs : List Loc) (_ : va_P D vwCl (wX8 cA a0 o0) H) (_ : va_D A (wX8 cA a0 o0)) (_ : va_S A s.heap H locs) (ls : Array Slot) (_ : lv_has ls 5 [(0, .ref (a0 0)), (1, .int x1), (2, .int x2)]) (_ : J_X8_orders_65l30 (L_X8_orders_30 x1 n) x1 x2 o0 = some res), W p l e rmX8_orders s m args below meth c H locs 0 0 Q (F0 m 65 ls []) := by
        intro x2 o0 H locs hP hD hS ls hl h
        unfold J_X8_orders_65l30 at h
        refine lv_iconst (v := (0 : Int32)) hx hb dX8_orders_65 (by decide) ?_
        exact JP30_66 (0 : Int32) x2 o0 _ _ hP hD hS ls (lv_sub hl [0, 1, 2] rfl) h
      refine lv_iload_n hx hb dX8_orders_30 rfl (lv_at hl 2 rfl) ?_
      refine lv_aload_n hx hb dX8_orders_31 rfl (lv_at hl 0 rfl) ?_
      refine va_get (D := D) (ci := 8) (v := .ref (a0 6)) (C := RX8) (T := TX8) (N := 27) hx hb hts hinX8 hown hK.1 hP 0 rfl rfl 5 (by decide) lkf22 (fun _ h9 => h9) rfl dX8_orders_32 ?_
      refine lv_iconst (v := (0 : Int32)) hx hb dX8_orders_35 (by decide) ?_
      refine iald (q0 := 0) (t0 := 0) (j := 0) hx hb hK hP 5 rfl rfl (vp_in_iff.mpr (by decide)) dX8_orders_36 ?_
      refine lv_icmp_ge (tgt := 155) hx hb dX8_orders_37 (by decide) (fun hc => ?_) (fun hc => ?_)
      · have h := if_t hc h
        cases h
        exact K0 _ _ hP hD hS _ (lv_sub hl [0, 1] rfl)
      · have h := if_f hc h
        refine lv_iload_n hx hb dX8_orders_40 rfl (lv_at hl 1 rfl) ?_
        refine lv_iload_n hx hb dX8_orders_41 rfl (lv_at hl 2 rfl) ?_
        obtain ⟨z1, hz1, h⟩ := bd_some h
        refine cR_S (As := [.int x1, .int x2]) (rest := []) ⟨hx, hb, hml, hown, hts⟩ (c_X8_has l D cA  x1 x2 z1 hz1) (va_cwS 2 hts gX8_orders_X8_has rfl rfl rfl hd_X8_has.2 ⟨(Nat.le_of_ble_eq_true rfl), (Nat.le_of_ble_eq_true rfl)⟩) hK hP [] rfl rfl hl.1 rfl (Nat.le_of_ble_eq_true rfl) dX8_orders_42 ⟨(Nat.le_of_ble_eq_true rfl), (Nat.le_of_ble_eq_true rfl)⟩ ?_
        refine lv_if_eq (tgt := 65) hx hb dX8_orders_45 (by decide) (fun hc => ?_) (fun hc => ?_)
        · have h := if_t hc h
          exact JP30_65 x2 o0 _ _ hP hD hS ls (lv_sub hl [0, 1, 2] rfl) h
        · have h := if_f hc h
          refine lv_iload_n hx hb dX8_orders_48 rfl (lv_at hl 1 rfl) ?_
          refine lv_aload_n hx hb dX8_orders_49 rfl (lv_at hl 0 rfl) ?_
          refine va_get (D := D) (ci := 8) (v := .ref (a0 12)) (C := RX8) (T := TX8) (N := 27) hx hb hts hinX8 hown hK.1 hP 0 rfl rfl 11 (by decide) lkf40 (fun _ h9 => h9) rfl dX8_orders_50 ?_
          refine lv_iconst (v := (0 : Int32)) hx hb dX8_orders_53 (by decide) ?_
          refine iald (q0 := 0) (t0 := 0) (j := 0) hx hb hK hP 11 rfl rfl (vp_in_iff.mpr (by decide)) dX8_orders_54 ?_
          refine lv_iconst (v := (-1 : Int32)) hx hb dX8_orders_55 (by decide) ?_
          refine lv_ixor hx hb dX8_orders_56 ?_
          refine lv_iand hx hb dX8_orders_57 ?_
          refine lv_if_ne (tgt := 65) hx hb dX8_orders_58 (by decide) (fun hc => ?_) (fun hc => ?_)
          · have h := if_f hc h
            exact JP30_65 x2 o0 _ _ hP hD hS ls (lv_sub hl [0, 1, 2] rfl) h
          · have h := if_t hc h
            refine lv_iconst (v := (1 : Int32)) hx hb dX8_orders_61 (by decide) ?_
            refine lv_goto (tgt := 66) hx hb dX8_orders_62 (by decide) ?_
            exact JP30_66 (1 : Int32) x2 o0 _ _ hP hD hS ls (lv_sub hl [0, 1, 2] rfl) h
  have LP9 : ∀ (n : Nat) (x1 : Int32) (o0 : Ob) (H : Heap) (locs : List Loc) (_ : va_P D vwCl (wX8 cA a0 o0) H) (_ : va_D A (wX8 cA a0 o0)) (_ : va_S A s.heap H locs) (ls : Array Slot) (_ : lv_has ls 5 [(0, .ref (a0 0)), (1, .int x1)]) (res : Ob) (_ : L_X8_orders_9 n x1 o0 = some res) (_ : (∀ (H : Heap) (locs : List Loc) (_ : va_P D vwCl (wX8 cA a0 res) H) (_ : va_D A (wX8 cA a0 res)) (_ : va_S A s.heap H locs) (ls : Array Slot), lv_has ls 5 [(0, .ref (a0 0))] → W p l e rmX8_orders s m args below meth c H locs 0 0 Q (F0 m 161 ls []))), W p l e rmX8_orders s m args below meth c H locs 0 0 Q (F0 m 9 ls []) := by
    intro n
    induction n with
    | zero =>
      intro x1 o0 H locs hP hD hS ls hl res h K0
      exact absurd h (fun q : (none : Option (Ob)) = some res => by cases q)
    | succ n ih =>
      intro x1 o0 H locs hP hD hS ls hl res h K0
      have h : L_X8_orders_9_step (L_X8_orders_9 n) x1 o0 = some res := h
      unfold L_X8_orders_9_step at h
      refine lv_iload_n hx hb dX8_orders_9 rfl (lv_at hl 1 rfl) ?_
      refine lv_iconst (v := (1 : Int32)) hx hb dX8_orders_10 (by decide) ?_
      refine lv_aload_n hx hb dX8_orders_11 rfl (lv_at hl 0 rfl) ?_
      refine va_get (D := D) (ci := 8) (v := .ref (a0 6)) (C := RX8) (T := TX8) (N := 27) hx hb hts hinX8 hown hK.1 hP 0 rfl rfl 5 (by decide) lkf22 (fun _ h9 => h9) rfl dX8_orders_12 ?_
      refine lv_iconst (v := (0 : Int32)) hx hb dX8_orders_15 (by decide) ?_
      refine iald (q0 := 0) (t0 := 0) (j := 0) hx hb hK hP 5 rfl rfl (vp_in_iff.mpr (by decide)) dX8_orders_16 ?_
      refine lv_ishl hx hb dX8_orders_17 ?_
      refine lv_icmp_ge (tgt := 161) hx hb dX8_orders_18 (by decide) (fun hc => ?_) (fun hc => ?_)
      · have h := if_t hc h
        cases h
        exact K0 _ _ hP hD hS _ (lv_sub hl [0] rfl)
      · have h := if_f hc h
        refine lv_aload_n hx hb dX8_orders_21 rfl (lv_at hl 0 rfl) ?_
        refine va_get (D := D) (ci := 8) (v := .ref (a0 24)) (C := RX8) (T := TX8) (N := 27) hx hb hts hinX8 hown hK.1 hP 0 rfl rfl 23 (by decide) lkf64 (fun _ h9 => h9) rfl dX8_orders_22 ?_
        refine lv_iload_n hx hb dX8_orders_25 rfl (lv_at hl 1 rfl) ?_
        refine lv_iconst (v := (0 : Int32)) hx hb dX8_orders_26 (by decide) ?_
        obtain ⟨hi1, h⟩ := gd_some h
        refine iast (j := x1.toNatClampNeg) (wn := (wX8 cA a0 (sA o0 23 x1.toNatClampNeg (0 : Int32)))) hx hb hK hP hD hS 19 rfl rfl (ck_in hi1) dX8_orders_27 rfl (fun H locs hP hD hS => ?_)
        obtain ⟨s2, es2⟩ : ∃ z, z = sA o0 23 x1.toNatClampNeg (0 : Int32) := ⟨_, rfl⟩
        rw [← es2] at hP hD
        have h := nm_ap es2 h
        refine lv_iconst (v := (0 : Int32)) hx hb dX8_orders_28 (by decide) ?_
        refine lv_istore_n (lv' := [(2, .int (0 : Int32)), (0, .ref (a0 0)), (1, .int x1)]) hx hb dX8_orders_29 rfl hl (by decide) rfl (fun ls hl => ?_)
        obtain ⟨z3, hz3, h⟩ := bd_some h
        refine LP30 x1 512 (0 : Int32) s2 _ _ hP hD hS ls (lv_sub hl [1, 2, 0] rfl) _ hz3 ?_
        · intro H locs hP hD hS ls hl
          obtain ⟨v4, ev4⟩ : ∃ y : Int32, y = x1 + (1 : Int32) := ⟨_, rfl⟩
          refine lv_iinc (v := v4) (lv' := [(1, .int v4), (0, .ref (a0 0))]) hx hb dX8_orders_155 hl (k := 1) rfl (by rw [ev4]; rfl) (by decide) rfl (fun ls hl => ?_)
          have h := nm_ap ev4 h
          refine lv_goto (tgt := 9) hx hb dX8_orders_158 (by decide) ?_
          exact ih v4 z3 _ _ hP hD hS ls (lv_sub hl [1, 0] rfl) _ h K0
  refine lv_aload_n hx hb dX8_orders_0 rfl (lv_at hl 0 rfl) ?_
  refine va_get (D := D) (ci := 8) (v := .ref (a0 24)) (C := RX8) (T := TX8) (N := 27) hx hb hts hinX8 hown hK.1 hP 0 rfl rfl 23 (by decide) lkf64 (fun _ h9 => h9) rfl dX8_orders_1 ?_
  refine lv_iconst (v := (0 : Int32)) hx hb dX8_orders_4 (by decide) ?_
  refine lv_iconst (v := (1 : Int32)) hx hb dX8_orders_5 (by decide) ?_
  refine iast (j := 0) (wn := (wX8 cA a0 (sA o0 23 0 (1 : Int32)))) hx hb hK hP hD hS 19 rfl rfl (vp_in_iff.mpr (by decide)) dX8_orders_6 rfl (fun H locs hP hD hS => ?_)
  obtain ⟨s1, es1⟩ : ∃ z, z = sA o0 23 0 (1 : Int32) := ⟨_, rfl⟩
  rw [← es1] at hP hD
  have h := nm_ap es1 h
  refine lv_iconst (v := (1 : Int32)) hx hb dX8_orders_7 (by decide) ?_
  refine lv_istore_n (lv' := [(1, .int (1 : Int32)), (0, .ref (a0 0))]) hx hb dX8_orders_8 rfl hl (by decide) rfl (fun ls hl => ?_)
  obtain ⟨z2, hz2, h⟩ := bd_some h
  refine LP9 512 (1 : Int32) s1 _ _ hP hD hS ls (lv_sub hl [1, 0] rfl) _ hz2 ?_
  · intro H locs hP hD hS ls hl
    refine lv_aload_n hx hb dX8_orders_161 rfl (lv_at hl 0 rfl) ?_
    refine va_get (D := D) (ci := 8) (v := .ref (a0 24)) (C := RX8) (T := TX8) (N := 27) hx hb hts hinX8 hown hK.1 hP 0 rfl rfl 23 (by decide) lkf64 (fun _ h9 => h9) rfl dX8_orders_162 ?_
    refine lv_aload_n hx hb dX8_orders_165 rfl (lv_at hl 0 rfl) ?_
    refine va_get (D := D) (ci := 8) (v := .ref (a0 12)) (C := RX8) (T := TX8) (N := 27) hx hb hts hinX8 hown hK.1 hP 0 rfl rfl 11 (by decide) lkf40 (fun _ h9 => h9) rfl dX8_orders_166 ?_
    refine lv_iconst (v := (0 : Int32)) hx hb dX8_orders_169 (by decide) ?_
    refine iald (q0 := 0) (t0 := 0) (j := 0) hx hb hK hP 11 rfl rfl (vp_in_iff.mpr (by decide)) dX8_orders_170 ?_
    obtain ⟨hi3, h⟩ := gd_some h
    refine iald (q0 := 0) (t0 := 0) (j := (z2.2 11 0).toNatClampNeg) hx hb hK hP 19 rfl rfl (ck_in hi3) dX8_orders_171 ?_
    cases h
    exact hend _ _ _ _ hP hD hS dX8_orders_172
abbrev rmX8_tell : Room := ({ frames := 2, cells := 0, slots := 0, locals := 46 } : Room)
set_option maxHeartbeats 4000000 in
set_option maxRecDepth 100000 in
theorem c_X8_tell (l : Launch) (D : va_G) (cA : ClassId) (a0 : (Nat → Nat)) (o0 : Ob) (x1 : Int32) (r : Int32) (o0_ : Ob) (h : f_X8_tell o0 x1 = some (r, o0_)) : ConW l yX8_tell wsX8_tell rmX8_tell D cA [.ref (a0 0), .int x1] (wX8 cA a0 o0) r (wX8 cA a0 o0_) := by
  refine ConW.enter (cc := cX8_tell) (maxL := 3) (by decide) rfl (Nat.le_of_ble_eq_true rfl) ?_
  intro p e s m args below meth c Q A hx hb hml hown hts hK hP hD hA hend ls hl
  have hS : va_S A s.heap s.heap [] := va_S.rf
  have hl : lv_has ls 3 [(0, .ref (a0 0)), (1, .int x1)] := hl
  unfold f_X8_tell at h
  have lkf137 := hts (.fieldLink RX8 137 "TiedToTownModel" "rowMany" "I") (List.mem_of_getElem? (i := 1) rfl)
  have hinX8 : ∀ w ∈ wsX80, w ∈ wsX8_tell := fun w h => List.mem_cons_of_mem _ (List.mem_append_right _ h)
  have lkf49 := hts (.fieldLink RX8 49 "TiedToTownModel" "row" "[I") (List.mem_of_getElem? (i := 2) rfl)
  have LP12 : ∀ (x1 : Int32) (o0 : Ob) (n : Nat) (x2 : Int32) (H : Heap) (locs : List Loc) (_ : va_P D vwCl (wX8 cA a0 o0) H) (_ : va_D A (wX8 cA a0 o0)) (_ : va_S A s.heap H locs) (ls : Array Slot) (_ : lv_has ls 3 [(0, .ref (a0 0)), (1, .int x1), (2, .int x2)]) (res : Nat) (_ : L_X8_tell_12 x1 o0 n x2 = some res) (_ : (∀ (H : Heap) (locs : List Loc) (_ : va_P D vwCl (wX8 cA a0 o0) H) (_ : va_D A (wX8 cA a0 o0)) (_ : va_S A s.heap H locs) (ls : Array Slot), lv_has ls 3 [] → res = 0 → W p l e rmX8_tell s m args below meth c H locs 0 0 Q (F0 m 30 ls []))) (_ : (∀ (H : Heap) (locs : List Loc) (_ : va_P D vwCl (wX8 cA a0 o0) H) (_ : va_D A (wX8 cA a0 o0)) (_ : va_S A s.heap H locs) (ls : Array Slot), lv_has ls 3 [(0, .ref (a0 0)), (1, .int x1)] → res = 1 → W p l e rmX8_tell s m args below meth c H locs 0 0 Q (F0 m 39 ls []))), W p l e rmX8_tell s m args below meth c H locs 0 0 Q (F0 m 12 ls []) := by
    intro x1 o0 n
    induction n with
    | zero =>
      intro x2 H locs hP hD hS ls hl res h K0 K1
      exact absurd h (fun q : (none : Option (Nat)) = some res => by cases q)
    | succ n ih =>
      intro x2 H locs hP hD hS ls hl res h K0 K1
      have h : L_X8_tell_12_step x1 o0 (L_X8_tell_12 x1 o0 n) x2 = some res := h
      unfold L_X8_tell_12_step at h
      refine lv_iload_n hx hb dX8_tell_12 rfl (lv_at hl 2 rfl) ?_
      refine lv_aload_n hx hb dX8_tell_13 rfl (lv_at hl 0 rfl) ?_
      refine va_get (D := D) (ci := 8) (v := .int (o0.1 16)) (C := RX8) (T := TX8) (N := 27) hx hb hts hinX8 hown hK.1 hP 0 rfl rfl 16 (by decide) lkf137 (fun _ h9 => h9) rfl dX8_tell_14 ?_
      refine lv_icmp_ge (tgt := 39) hx hb dX8_tell_17 (by decide) (fun hc => ?_) (fun hc => ?_)
      · have h := if_t hc h
        cases h
        exact K1 _ _ hP hD hS _ (lv_sub hl [0, 1] rfl) rfl
      · have h := if_f hc h
        refine lv_aload_n hx hb dX8_tell_20 rfl (lv_at hl 0 rfl) ?_
        refine va_get (D := D) (ci := 8) (v := .ref (a0 18)) (C := RX8) (T := TX8) (N := 27) hx hb hts hinX8 hown hK.1 hP 0 rfl rfl 17 (by decide) lkf49 (fun _ h9 => h9) rfl dX8_tell_21 ?_
        refine lv_iload_n hx hb dX8_tell_24 rfl (lv_at hl 2 rfl) ?_
        obtain ⟨hi1, h⟩ := gd_some h
        refine iald (q0 := 0) (t0 := 0) (j := x2.toNatClampNeg) hx hb hK hP 14 rfl rfl (ck_in hi1) dX8_tell_25 ?_
        refine lv_iload_n hx hb dX8_tell_26 rfl (lv_at hl 1 rfl) ?_
        refine lv_icmp_ne (tgt := 33) hx hb dX8_tell_27 (by decide) (fun hc => ?_) (fun hc => ?_)
        · have h := if_f hc h
          obtain ⟨v2, ev2⟩ : ∃ y : Int32, y = x2 + (1 : Int32) := ⟨_, rfl⟩
          refine lv_iinc (v := v2) (lv' := [(2, .int v2), (0, .ref (a0 0)), (1, .int x1)]) hx hb dX8_tell_33 hl (k := 2) rfl (by rw [ev2]; rfl) (by decide) rfl (fun ls hl => ?_)
          have h := nm_ap ev2 h
          refine lv_goto (tgt := 12) hx hb dX8_tell_36 (by decide) ?_
          exact ih v2 _ _ hP hD hS ls (lv_sub hl [1, 2, 0] rfl) _ h K0 K1
        · have h := if_t hc h
          cases h
          exact K0 _ _ hP hD hS _ (lv_sub hl [] rfl) rfl
  refine lv_aload_n hx hb dX8_tell_0 rfl (lv_at hl 0 rfl) ?_
  refine lv_iload_n hx hb dX8_tell_1 rfl (lv_at hl 1 rfl) ?_
  obtain ⟨z1, hz1, h⟩ := bd_some h
  refine cR_V (As := [.int x1]) (rest := []) ⟨hx, hb, hml, hown, hts⟩ (c_X8_isThere l D cA a0 o0 x1 z1 hz1) (cwV 1 hts gX8_tell_X8_isThere rfl rfl rfl hd_X8_isThere ⟨(Nat.le_of_ble_eq_true rfl), (Nat.le_of_ble_eq_true rfl)⟩) (recvK hK hP 0 8 rfl rfl) hK hP [0, 1, 2, 3, 4, 5, 6, 7, 8, 9, 10, 11, 12, 13, 14, 15, 16, 17, 18, 19, 20, 21, 22] rfl rfl hl.1 rfl (Nat.le_of_ble_eq_true rfl) dX8_tell_2 ⟨(Nat.le_of_ble_eq_true rfl), (Nat.le_of_ble_eq_true rfl)⟩ ?_
  refine lv_if_ne (tgt := 10) hx hb dX8_tell_5 (by decide) (fun hc => ?_) (fun hc => ?_)
  · have h := if_f hc h
    refine lv_iconst (v := (0 : Int32)) hx hb dX8_tell_10 (by decide) ?_
    refine lv_istore_n (lv' := [(2, .int (0 : Int32)), (0, .ref (a0 0)), (1, .int x1)]) hx hb dX8_tell_11 rfl hl (by decide) rfl (fun ls hl => ?_)
    obtain ⟨z2, hz2, h⟩ := bd_some h
    refine LP12 x1 o0 512 (0 : Int32) _ _ hP hD hS ls (lv_sub hl [1, 2, 0] rfl) _ hz2 ?_ ?_
    · intro H locs hP hD hS ls hl hi
      have h := if_t hi h
      refine lv_bipush (v := (-2 : Int32)) hx hb dX8_tell_30 (by decide) ?_
      cases h
      exact hend _ _ _ _ hP hD hS dX8_tell_32
    · intro H locs hP hD hS ls hl hi
      have h := if_f (by rw [hi]; decide) h
      refine lv_aload_n hx hb dX8_tell_39 rfl (lv_at hl 0 rfl) ?_
      refine va_get (D := D) (ci := 8) (v := .ref (a0 18)) (C := RX8) (T := TX8) (N := 27) hx hb hts hinX8 hown hK.1 hP 0 rfl rfl 17 (by decide) lkf49 (fun _ h9 => h9) rfl dX8_tell_40 ?_
      refine lv_aload_n hx hb dX8_tell_43 rfl (lv_at hl 0 rfl) ?_
      refine va_get (D := D) (ci := 8) (v := .int (o0.1 16)) (C := RX8) (T := TX8) (N := 27) hx hb hts hinX8 hown hK.1 hP 0 rfl rfl 16 (by decide) lkf137 (fun _ h9 => h9) rfl dX8_tell_44 ?_
      refine lv_iload_n hx hb dX8_tell_47 rfl (lv_at hl 1 rfl) ?_
      obtain ⟨hi3, h⟩ := gd_some h
      refine iast (j := (o0.1 16).toNatClampNeg) (wn := (wX8 cA a0 (sA o0 17 (o0.1 16).toNatClampNeg x1))) hx hb hK hP hD hS 14 rfl rfl (ck_in hi3) dX8_tell_48 rfl (fun H locs hP hD hS => ?_)
      obtain ⟨s4, es4⟩ : ∃ z, z = sA o0 17 (o0.1 16).toNatClampNeg x1 := ⟨_, rfl⟩
      rw [← es4] at hP hD
      have h := nm_ap es4 h
      refine lv_aload_n hx hb dX8_tell_49 rfl (lv_at hl 0 rfl) ?_
      refine lv_dup hx hb dX8_tell_50 rfl ?_
      refine va_get (D := D) (ci := 8) (v := .int (s4.1 16)) (C := RX8) (T := TX8) (N := 27) hx hb hts hinX8 hown hK.1 hP 0 rfl rfl 16 (by decide) lkf137 (fun _ h9 => h9) rfl dX8_tell_51 ?_
      refine lv_iconst (v := (1 : Int32)) hx hb dX8_tell_54 (by decide) ?_
      refine lv_iadd hx hb dX8_tell_55 ?_
      refine va_put (D := D) (ci := 8) (v := .int ((s4.1 16) + (1 : Int32))) (ty := .int) (C := RX8) (T := TX8) (N := 27) hx hb hts hinX8 tyX8 tyX8_ok nmX8 hown hK.1 hP hD hS 0 rfl rfl 16 (by decide) lkf137 (fun _ h9 => h9) rfl (by decide +kernel) rfl rfl (Nat.le_of_ble_eq_true rfl) dX8_tell_56 (fun H locs hP hD hS => ?_)
      have hP : va_P D vwCl (wX8 cA a0 (sF s4 16 ((s4.1 16) + (1 : Int32)))) H := hP
      have hD : va_D A (wX8 cA a0 (sF s4 16 ((s4.1 16) + (1 : Int32)))) := hD
      obtain ⟨s5, es5⟩ : ∃ z, z = sF s4 16 ((s4.1 16) + (1 : Int32)) := ⟨_, rfl⟩
      rw [← es5] at hP hD
      have h := nm_ap es5 h
      refine lv_aload_n hx hb dX8_tell_59 rfl (lv_at hl 0 rfl) ?_
      refine va_get (D := D) (ci := 8) (v := .int (s5.1 16)) (C := RX8) (T := TX8) (N := 27) hx hb hts hinX8 hown hK.1 hP 0 rfl rfl 16 (by decide) lkf137 (fun _ h9 => h9) rfl dX8_tell_60 ?_
      cases h
      exact hend _ _ _ _ hP hD hS dX8_tell_63
  · have h := if_t hc h
    refine lv_iconst (v := (-1 : Int32)) hx hb dX8_tell_8 (by decide) ?_
    cases h
    exact hend _ _ _ _ hP hD hS dX8_tell_9
abbrev rmX8_noRow : Room := ({ frames := 0, cells := 0, slots := 0, locals := 0 } : Room)
set_option maxHeartbeats 4000000 in
set_option maxRecDepth 100000 in
theorem c_X8_noRow (l : Launch) (D : va_G) (cA : ClassId) (a0 : (Nat → Nat)) (o0 : Ob) (r : Int32) (o0_ : Ob) (h : f_X8_noRow o0 = some (r, o0_)) : ConW l yX8_noRow wsX8_noRow rmX8_noRow D cA [.ref (a0 0)] (wX8 cA a0 o0) r (wX8 cA a0 o0_) := by
  refine ConW.enter (cc := cX8_noRow) (maxL := 2) (by decide) rfl (Nat.le_of_ble_eq_true rfl) ?_
  intro p e s m args below meth c Q A hx hb hml hown hts hK hP hD hA hend ls hl
  have hS : va_S A s.heap s.heap [] := va_S.rf
  have hl : lv_has ls 2 [(0, .ref (a0 0))] := hl
  unfold f_X8_noRow at h
  have lkf137 := hts (.fieldLink RX8 137 "TiedToTownModel" "rowMany" "I") (List.mem_of_getElem? (i := 1) rfl)
  have hinX8 : ∀ w ∈ wsX80, w ∈ wsX8_noRow := fun w h => List.mem_cons_of_mem _ (List.mem_append_right _ h)
  refine lv_aload_n hx hb dX8_noRow_0 rfl (lv_at hl 0 rfl) ?_
  refine va_get (D := D) (ci := 8) (v := .int (o0.1 16)) (C := RX8) (T := TX8) (N := 27) hx hb hts hinX8 hown hK.1 hP 0 rfl rfl 16 (by decide) lkf137 (fun _ h9 => h9) rfl dX8_noRow_1 ?_
  refine lv_topi (fun v1 ev1 => ?_)
  have h := nm_ap ev1 h
  refine lv_istore_n (lv' := [(1, .int v1), (0, .ref (a0 0))]) hx hb dX8_noRow_4 rfl hl (by decide) rfl (fun ls hl => ?_)
  refine lv_aload_n hx hb dX8_noRow_5 rfl (lv_at hl 1 rfl) ?_
  refine lv_iconst (v := (0 : Int32)) hx hb dX8_noRow_6 (by decide) ?_
  refine va_put (D := D) (ci := 8) (v := .int (0 : Int32)) (ty := .int) (C := RX8) (T := TX8) (N := 27) hx hb hts hinX8 tyX8 tyX8_ok nmX8 hown hK.1 hP hD hS 0 rfl rfl 16 (by decide) lkf137 (fun _ h9 => h9) rfl (by decide +kernel) rfl rfl (Nat.le_of_ble_eq_true rfl) dX8_noRow_7 (fun H locs hP hD hS => ?_)
  have hP : va_P D vwCl (wX8 cA a0 (sF o0 16 (0 : Int32))) H := hP
  have hD : va_D A (wX8 cA a0 (sF o0 16 (0 : Int32))) := hD
  obtain ⟨s2, es2⟩ : ∃ z, z = sF o0 16 (0 : Int32) := ⟨_, rfl⟩
  rw [← es2] at hP hD
  have h := nm_ap es2 h
  refine lv_iload_n hx hb dX8_noRow_10 rfl (lv_at hl 0 rfl) ?_
  cases h
  exact hend _ _ _ _ hP hD hS dX8_noRow_11
abbrev rmX8_judge : Room := ({ frames := 1, cells := 0, slots := 0, locals := 21 } : Room)
set_option maxHeartbeats 4000000 in
set_option maxRecDepth 100000 in
theorem c_X8_judge (l : Launch) (D : va_G) (cA : ClassId) (a0 : (Nat → Nat)) (o0 : Ob) (r : Int32) (h : f_X8_judge o0 = some r) : ConR l yX8_judge wsX8_judge rmX8_judge D cA [.ref (a0 0)] (wX8 cA a0 o0) r := by
  refine ConR.enter (cc := cX8_judge) (maxL := 3) (by decide) rfl (Nat.le_of_ble_eq_true rfl) ?_
  intro p e s m args below meth c Q hx hb hml hown hts hK hP  hend ls hl
  have hl : lv_has ls 3 [(0, .ref (a0 0))] := hl
  unfold f_X8_judge at h
  have lkf137 := hts (.fieldLink RX8 137 "TiedToTownModel" "rowMany" "I") (List.mem_of_getElem? (i := 1) rfl)
  have hinX8 : ∀ w ∈ wsX80, w ∈ wsX8_judge := fun w h => List.mem_cons_of_mem _ (List.mem_append_right _ h)
  have lkf31 := hts (.fieldLink RX8 31 "TiedToTownModel" "through" "[I") (List.mem_of_getElem? (i := 2) rfl)
  have lkf49 := hts (.fieldLink RX8 49 "TiedToTownModel" "row" "[I") (List.mem_of_getElem? (i := 3) rfl)
  have LP14 : ∀ (x1 : Int32) (n : Nat) (x2 : Int32) (ls : Array Slot) (_ : lv_has ls 3 [(0, .ref (a0 0)), (1, .int x1), (2, .int x2)]) (res : Nat) (_ : L_X8_judge_14 x1 o0 n x2 = some res) (_ : (∀ (ls : Array Slot), lv_has ls 3 [(1, .int x1)] → res = 0 → W p l e rmX8_judge s m args below meth c s.heap [] 0 0 Q (F0 m 45 ls []))) (_ : (∀ (ls : Array Slot), lv_has ls 3 [(0, .ref (a0 0)), (1, .int x1)] → res = 1 → W p l e rmX8_judge s m args below meth c s.heap [] 0 0 Q (F0 m 53 ls []))), W p l e rmX8_judge s m args below meth c s.heap [] 0 0 Q (F0 m 14 ls []) := by
    intro x1 n
    induction n with
    | zero =>
      intro x2 ls hl res h K0 K1
      exact absurd h (fun q : (none : Option (Nat)) = some res => by cases q)
    | succ n ih =>
      intro x2 ls hl res h K0 K1
      have h : L_X8_judge_14_step x1 o0 (L_X8_judge_14 x1 o0 n) x2 = some res := h
      unfold L_X8_judge_14_step at h
      refine lv_iload_n hx hb dX8_judge_14 rfl (lv_at hl 2 rfl) ?_
      refine lv_aload_n hx hb dX8_judge_15 rfl (lv_at hl 0 rfl) ?_
      refine va_get (D := D) (ci := 8) (v := .int (o0.1 16)) (C := RX8) (T := TX8) (N := 27) hx hb hts hinX8 hown hK.1 hP 0 rfl rfl 16 (by decide) lkf137 (fun _ h9 => h9) rfl dX8_judge_16 ?_
      refine lv_icmp_ge (tgt := 53) hx hb dX8_judge_19 (by decide) (fun hc => ?_) (fun hc => ?_)
      · have h := if_t hc h
        cases h
        exact K1 _ (lv_sub hl [0, 1] rfl) rfl
      · have h := if_f hc h
        refine lv_aload_n hx hb dX8_judge_22 rfl (lv_at hl 0 rfl) ?_
        refine va_get (D := D) (ci := 8) (v := .ref (a0 9)) (C := RX8) (T := TX8) (N := 27) hx hb hts hinX8 hown hK.1 hP 0 rfl rfl 8 (by decide) lkf31 (fun _ h9 => h9) rfl dX8_judge_23 ?_
        refine lv_aload_n hx hb dX8_judge_26 rfl (lv_at hl 0 rfl) ?_
        refine va_get (D := D) (ci := 8) (v := .ref (a0 18)) (C := RX8) (T := TX8) (N := 27) hx hb hts hinX8 hown hK.1 hP 0 rfl rfl 17 (by decide) lkf49 (fun _ h9 => h9) rfl dX8_judge_27 ?_
        refine lv_iload_n hx hb dX8_judge_30 rfl (lv_at hl 1 rfl) ?_
        obtain ⟨hi1, h⟩ := gd_some h
        refine iald (q0 := 0) (t0 := 0) (j := x1.toNatClampNeg) hx hb hK hP 14 rfl rfl (ck_in hi1) dX8_judge_31 ?_
        obtain ⟨hi2, h⟩ := gd_some h
        refine iald (q0 := 0) (t0 := 0) (j := (o0.2 17 x1.toNatClampNeg).toNatClampNeg) hx hb hK hP 8 rfl rfl (ck_in hi2) dX8_judge_32 ?_
        refine lv_aload_n hx hb dX8_judge_33 rfl (lv_at hl 0 rfl) ?_
        refine va_get (D := D) (ci := 8) (v := .ref (a0 18)) (C := RX8) (T := TX8) (N := 27) hx hb hts hinX8 hown hK.1 hP 0 rfl rfl 17 (by decide) lkf49 (fun _ h9 => h9) rfl dX8_judge_34 ?_
        refine lv_iload_n hx hb dX8_judge_37 rfl (lv_at hl 2 rfl) ?_
        obtain ⟨hi3, h⟩ := gd_some h
        refine iald (q0 := 0) (t0 := 0) (j := x2.toNatClampNeg) hx hb hK hP 14 rfl rfl (ck_in hi3) dX8_judge_38 ?_
        obtain ⟨z4, hz4, h⟩ := bd_some h
        refine cR_S (As := [.int (o0.2 8 (o0.2 17 x1.toNatClampNeg).toNatClampNeg), .int (o0.2 17 x2.toNatClampNeg)]) (rest := []) ⟨hx, hb, hml, hown, hts⟩ (c_X8_has l D cA  (o0.2 8 (o0.2 17 x1.toNatClampNeg).toNatClampNeg) (o0.2 17 x2.toNatClampNeg) z4 hz4) (va_cwS 2 hts gX8_judge_X8_has rfl rfl rfl hd_X8_has.2 ⟨(Nat.le_of_ble_eq_true rfl), (Nat.le_of_ble_eq_true rfl)⟩) hK hP [] rfl rfl hl.1 rfl (Nat.le_of_ble_eq_true rfl) dX8_judge_39 ⟨(Nat.le_of_ble_eq_true rfl), (Nat.le_of_ble_eq_true rfl)⟩ ?_
        refine lv_if_eq (tgt := 47) hx hb dX8_judge_42 (by decide) (fun hc => ?_) (fun hc => ?_)
        · have h := if_t hc h
          obtain ⟨v5, ev5⟩ : ∃ y : Int32, y = x2 + (1 : Int32) := ⟨_, rfl⟩
          refine lv_iinc (v := v5) (lv' := [(2, .int v5), (0, .ref (a0 0)), (1, .int x1)]) hx hb dX8_judge_47 hl (k := 2) rfl (by rw [ev5]; rfl) (by decide) rfl (fun ls hl => ?_)
          have h := nm_ap ev5 h
          refine lv_goto (tgt := 14) hx hb dX8_judge_50 (by decide) ?_
          exact ih v5 ls (lv_sub hl [1, 2, 0] rfl) _ h K0 K1
        · have h := if_f hc h
          cases h
          exact K0 _ (lv_sub hl [1] rfl) rfl
  have LP2 : ∀ (n : Nat) (x1 : Int32) (ls : Array Slot) (_ : lv_has ls 3 [(0, .ref (a0 0)), (1, .int x1)]) (res : Nat × Int32) (_ : L_X8_judge_2 o0 n x1 = some res) (_ : (∀ (ls : Array Slot), lv_has ls 3 [(1, .int res.2)] → res.1 = 0 → W p l e rmX8_judge s m args below meth c s.heap [] 0 0 Q (F0 m 45 ls []))) (_ : (∀ (ls : Array Slot), lv_has ls 3 [] → res.1 = 1 → W p l e rmX8_judge s m args below meth c s.heap [] 0 0 Q (F0 m 59 ls []))), W p l e rmX8_judge s m args below meth c s.heap [] 0 0 Q (F0 m 2 ls []) := by
    intro n
    induction n with
    | zero =>
      intro x1 ls hl res h K0 K1
      exact absurd h (fun q : (none : Option (Nat × Int32)) = some res => by cases q)
    | succ n ih =>
      intro x1 ls hl res h K0 K1
      have h : L_X8_judge_2_step o0 (L_X8_judge_2 o0 n) x1 = some res := h
      unfold L_X8_judge_2_step at h
      refine lv_iload_n hx hb dX8_judge_2 rfl (lv_at hl 1 rfl) ?_
      refine lv_aload_n hx hb dX8_judge_3 rfl (lv_at hl 0 rfl) ?_
      refine va_get (D := D) (ci := 8) (v := .int (o0.1 16)) (C := RX8) (T := TX8) (N := 27) hx hb hts hinX8 hown hK.1 hP 0 rfl rfl 16 (by decide) lkf137 (fun _ h9 => h9) rfl dX8_judge_4 ?_
      refine lv_icmp_ge (tgt := 59) hx hb dX8_judge_7 (by decide) (fun hc => ?_) (fun hc => ?_)
      · have h := if_t hc h
        cases h
        exact K1 _ (lv_sub hl [] rfl) rfl
      · have h := if_f hc h
        refine lv_iload_n hx hb dX8_judge_10 rfl (lv_at hl 1 rfl) ?_
        refine lv_iconst (v := (1 : Int32)) hx hb dX8_judge_11 (by decide) ?_
        refine lv_iadd hx hb dX8_judge_12 ?_
        refine lv_topi (fun v1 ev1 => ?_)
        have h := nm_ap ev1 h
        refine lv_istore_n (lv' := [(2, .int v1), (0, .ref (a0 0)), (1, .int x1)]) hx hb dX8_judge_13 rfl hl (by decide) rfl (fun ls hl => ?_)
        obtain ⟨z2, hz2, h⟩ := bd_some h
        refine LP14 x1 512 v1 ls (lv_sub hl [1, 2, 0] rfl) _ hz2 ?_ ?_
        · intro ls hl hi
          have h := if_t hi h
          cases h
          exact K0 _ (lv_sub hl [0] rfl) rfl
        · intro ls hl hi
          have h := if_f (by rw [hi]; decide) h
          obtain ⟨v3, ev3⟩ : ∃ y : Int32, y = x1 + (1 : Int32) := ⟨_, rfl⟩
          refine lv_iinc (v := v3) (lv' := [(1, .int v3), (0, .ref (a0 0))]) hx hb dX8_judge_53 hl (k := 1) rfl (by rw [ev3]; rfl) (by decide) rfl (fun ls hl => ?_)
          have h := nm_ap ev3 h
          refine lv_goto (tgt := 2) hx hb dX8_judge_56 (by decide) ?_
          exact ih v3 ls (lv_sub hl [1, 0] rfl) _ h K0 K1
  refine lv_iconst (v := (0 : Int32)) hx hb dX8_judge_0 (by decide) ?_
  refine lv_istore_n (lv' := [(1, .int (0 : Int32)), (0, .ref (a0 0))]) hx hb dX8_judge_1 rfl hl (by decide) rfl (fun ls hl => ?_)
  obtain ⟨z1, hz1, h⟩ := bd_some h
  refine LP2 512 (0 : Int32) ls (lv_sub hl [1, 0] rfl) _ hz1 ?_ ?_
  · intro ls hl hi
    have h := if_t hi h
    refine lv_iload_n hx hb dX8_judge_45 rfl (lv_at hl 0 rfl) ?_
    cases h
    exact hend _ _ dX8_judge_46
  · intro ls hl hi
    have h := if_f (by rw [hi]; decide) h
    refine lv_bipush (v := (-4 : Int32)) hx hb dX8_judge_59 (by decide) ?_
    cases h
    exact hend _ _ dX8_judge_61
abbrev rmX8_cross : Room := ({ frames := 1, cells := 0, slots := 0, locals := 25 } : Room)
set_option maxHeartbeats 4000000 in
set_option maxRecDepth 100000 in
theorem c_X8_cross (l : Launch) (D : va_G) (cA : ClassId) (a0 : (Nat → Nat)) (o0 : Ob) (x1 : Int32) (x2 : Int32) (r : Int32) (o0_ : Ob) (h : f_X8_cross o0 x1 x2 = some (r, o0_)) : ConW l yX8_cross wsX8_cross rmX8_cross D cA [.ref (a0 0), .int x1, .int x2] (wX8 cA a0 o0) r (wX8 cA a0 o0_) := by
  refine ConW.enter (cc := cX8_cross) (maxL := 3) (by decide) rfl (Nat.le_of_ble_eq_true rfl) ?_
  intro p e s m args below meth c Q A hx hb hml hown hts hK hP hD hA hend ls hl
  have hS : va_S A s.heap s.heap [] := va_S.rf
  have hl : lv_has ls 3 [(0, .ref (a0 0)), (1, .int x1), (2, .int x2)] := hl
  unfold f_X8_cross at h
  have lkc185 := hts (.constantLong RX8 185 (7)) (List.mem_of_getElem? (i := 1) rfl)
  have lkf52 := hts (.fieldLink RX8 52 "TiedToTownModel" "ropeMany" "[I") (List.mem_of_getElem? (i := 2) rfl)
  have hinX8 : ∀ w ∈ wsX80, w ∈ wsX8_cross := fun w h => List.mem_cons_of_mem _ (List.mem_append_right _ h)
  have lkf55 := hts (.fieldLink RX8 55 "TiedToTownModel" "ropes" "[I") (List.mem_of_getElem? (i := 3) rfl)
  refine lv_iload_n hx hb dX8_cross_0 rfl (lv_at hl 1 rfl) ?_
  refine lv_i2l hx hb dX8_cross_1 rfl ?_
  refine lv_lconst (v := (0 : Int64)) hx hb dX8_cross_2 (by decide) ?_
  refine lv_lconst (v := (1 : Int64)) hx hb dX8_cross_3 (by decide) ?_
  obtain ⟨z1, hz1, h⟩ := bd_some h
  refine cR_S (As := [.long x1.toInt64, .long (0 : Int64), .long (1 : Int64)]) (rest := []) ⟨hx, hb, hml, hown, hts⟩ (c_X8_in l D cA  x1.toInt64 (0 : Int64) (1 : Int64) z1 hz1) (va_cwS 3 hts gX8_cross_X8_in rfl rfl rfl hd_X8_in.2 ⟨(Nat.le_of_ble_eq_true rfl), (Nat.le_of_ble_eq_true rfl)⟩) hK hP [] rfl rfl hl.1 rfl (Nat.le_of_ble_eq_true rfl) dX8_cross_4 ⟨(Nat.le_of_ble_eq_true rfl), (Nat.le_of_ble_eq_true rfl)⟩ ?_
  refine lv_if_eq (tgt := 22) hx hb dX8_cross_7 (by decide) (fun hc => ?_) (fun hc => ?_)
  · have h := if_t hc h
    refine lv_iconst (v := (-1 : Int32)) hx hb dX8_cross_22 (by decide) ?_
    cases h
    exact hend _ _ _ _ hP hD hS dX8_cross_23
  · have h := if_f hc h
    refine lv_iload_n hx hb dX8_cross_10 rfl (lv_at hl 2 rfl) ?_
    refine lv_i2l hx hb dX8_cross_11 rfl ?_
    refine lv_lconst (v := (0 : Int64)) hx hb dX8_cross_12 (by decide) ?_
    refine lv_ldc2 hx hb hown lkc185 dX8_cross_13 ?_
    obtain ⟨z2, hz2, h⟩ := bd_some h
    refine cR_S (As := [.long x2.toInt64, .long (0 : Int64), .long (7 : Int64)]) (rest := []) ⟨hx, hb, hml, hown, hts⟩ (c_X8_in l D cA  x2.toInt64 (0 : Int64) (7 : Int64) z2 hz2) (va_cwS 3 hts gX8_cross_X8_in rfl rfl rfl hd_X8_in.2 ⟨(Nat.le_of_ble_eq_true rfl), (Nat.le_of_ble_eq_true rfl)⟩) hK hP [] rfl rfl hl.1 rfl (Nat.le_of_ble_eq_true rfl) dX8_cross_16 ⟨(Nat.le_of_ble_eq_true rfl), (Nat.le_of_ble_eq_true rfl)⟩ ?_
    refine lv_if_ne (tgt := 24) hx hb dX8_cross_19 (by decide) (fun hc => ?_) (fun hc => ?_)
    · have h := if_f hc h
      refine lv_aload_n hx hb dX8_cross_24 rfl (lv_at hl 0 rfl) ?_
      refine va_get (D := D) (ci := 8) (v := .ref (a0 19)) (C := RX8) (T := TX8) (N := 27) hx hb hts hinX8 hown hK.1 hP 0 rfl rfl 18 (by decide) lkf52 (fun _ h9 => h9) rfl dX8_cross_25 ?_
      refine lv_iload_n hx hb dX8_cross_28 rfl (lv_at hl 1 rfl) ?_
      obtain ⟨hi3, h⟩ := gd_some h
      refine iald (q0 := 0) (t0 := 0) (j := x1.toNatClampNeg) hx hb hK hP 15 rfl rfl (ck_in hi3) dX8_cross_29 ?_
      refine lv_bipush (v := (16 : Int32)) hx hb dX8_cross_30 (by decide) ?_
      refine lv_icmp_ne (tgt := 38) hx hb dX8_cross_32 (by decide) (fun hc => ?_) (fun hc => ?_)
      · have h := if_f hc h
        refine lv_aload_n hx hb dX8_cross_38 rfl (lv_at hl 0 rfl) ?_
        refine va_get (D := D) (ci := 8) (v := .ref (a0 20)) (C := RX8) (T := TX8) (N := 27) hx hb hts hinX8 hown hK.1 hP 0 rfl rfl 19 (by decide) lkf55 (fun _ h9 => h9) rfl dX8_cross_39 ?_
        refine lv_bipush (v := (16 : Int32)) hx hb dX8_cross_42 (by decide) ?_
        refine lv_iload_n hx hb dX8_cross_44 rfl (lv_at hl 1 rfl) ?_
        refine lv_imul hx hb dX8_cross_45 ?_
        refine lv_aload_n hx hb dX8_cross_46 rfl (lv_at hl 0 rfl) ?_
        refine va_get (D := D) (ci := 8) (v := .ref (a0 19)) (C := RX8) (T := TX8) (N := 27) hx hb hts hinX8 hown hK.1 hP 0 rfl rfl 18 (by decide) lkf52 (fun _ h9 => h9) rfl dX8_cross_47 ?_
        refine lv_iload_n hx hb dX8_cross_50 rfl (lv_at hl 1 rfl) ?_
        refine iald (q0 := 0) (t0 := 0) (j := x1.toNatClampNeg) hx hb hK hP 15 rfl rfl (ck_in hi3) dX8_cross_51 ?_
        refine lv_iadd hx hb dX8_cross_52 ?_
        refine lv_iload_n hx hb dX8_cross_53 rfl (lv_at hl 2 rfl) ?_
        obtain ⟨hi4, h⟩ := gd_some h
        refine iast (j := (((16 : Int32) * x1) + (o0.2 18 x1.toNatClampNeg)).toNatClampNeg) (wn := (wX8 cA a0 (sA o0 19 (((16 : Int32) * x1) + (o0.2 18 x1.toNatClampNeg)).toNatClampNeg x2))) hx hb hK hP hD hS 16 rfl rfl (ck_in hi4) dX8_cross_54 rfl (fun H locs hP hD hS => ?_)
        obtain ⟨s5, es5⟩ : ∃ z, z = sA o0 19 (((16 : Int32) * x1) + (o0.2 18 x1.toNatClampNeg)).toNatClampNeg x2 := ⟨_, rfl⟩
        rw [← es5] at hP hD
        have h := nm_ap es5 h
        refine lv_aload_n hx hb dX8_cross_55 rfl (lv_at hl 0 rfl) ?_
        refine va_get (D := D) (ci := 8) (v := .ref (a0 19)) (C := RX8) (T := TX8) (N := 27) hx hb hts hinX8 hown hK.1 hP 0 rfl rfl 18 (by decide) lkf52 (fun _ h9 => h9) rfl dX8_cross_56 ?_
        refine lv_iload_n hx hb dX8_cross_59 rfl (lv_at hl 1 rfl) ?_
        refine lv_dup2_11 hx hb dX8_cross_60 rfl rfl ?_
        refine iald (q0 := 0) (t0 := 0) (j := x1.toNatClampNeg) hx hb hK hP 15 rfl rfl (ck_in hi3) dX8_cross_61 ?_
        refine lv_iconst (v := (1 : Int32)) hx hb dX8_cross_62 (by decide) ?_
        refine lv_iadd hx hb dX8_cross_63 ?_
        refine iast (j := x1.toNatClampNeg) (wn := (wX8 cA a0 (sA s5 18 x1.toNatClampNeg ((s5.2 18 x1.toNatClampNeg) + (1 : Int32))))) hx hb hK hP hD hS 15 rfl rfl (ck_in hi3) dX8_cross_64 rfl (fun H locs hP hD hS => ?_)
        obtain ⟨s6, es6⟩ : ∃ z, z = sA s5 18 x1.toNatClampNeg ((s5.2 18 x1.toNatClampNeg) + (1 : Int32)) := ⟨_, rfl⟩
        rw [← es6] at hP hD
        have h := nm_ap es6 h
        refine lv_aload_n hx hb dX8_cross_65 rfl (lv_at hl 0 rfl) ?_
        refine va_get (D := D) (ci := 8) (v := .ref (a0 19)) (C := RX8) (T := TX8) (N := 27) hx hb hts hinX8 hown hK.1 hP 0 rfl rfl 18 (by decide) lkf52 (fun _ h9 => h9) rfl dX8_cross_66 ?_
        refine lv_iload_n hx hb dX8_cross_69 rfl (lv_at hl 1 rfl) ?_
        refine iald (q0 := 0) (t0 := 0) (j := x1.toNatClampNeg) hx hb hK hP 15 rfl rfl (ck_in hi3) dX8_cross_70 ?_
        cases h
        exact hend _ _ _ _ hP hD hS dX8_cross_71
      · have h := if_t hc h
        refine lv_bipush (v := (-3 : Int32)) hx hb dX8_cross_35 (by decide) ?_
        cases h
        exact hend _ _ _ _ hP hD hS dX8_cross_37
    · have h := if_t hc h
      refine lv_iconst (v := (-1 : Int32)) hx hb dX8_cross_22 (by decide) ?_
      cases h
      exact hend _ _ _ _ hP hD hS dX8_cross_23
abbrev rmX8_smooth : Room := ({ frames := 1, cells := 0, slots := 0, locals := 25 } : Room)
set_option maxHeartbeats 4000000 in
set_option maxRecDepth 100000 in
theorem c_X8_smooth (l : Launch) (D : va_G) (cA : ClassId) (a0 : (Nat → Nat)) (o0 : Ob) (x1 : Int32) (r : Int32) (o0_ : Ob) (h : f_X8_smooth o0 x1 = some (r, o0_)) : ConW l yX8_smooth wsX8_smooth rmX8_smooth D cA [.ref (a0 0), .int x1] (wX8 cA a0 o0) r (wX8 cA a0 o0_) := by
  refine ConW.enter (cc := cX8_smooth) (maxL := 3) (by decide) rfl (Nat.le_of_ble_eq_true rfl) ?_
  intro p e s m args below meth c Q A hx hb hml hown hts hK hP hD hA hend ls hl
  have hS : va_S A s.heap s.heap [] := va_S.rf
  have hl : lv_has ls 3 [(0, .ref (a0 0)), (1, .int x1)] := hl
  unfold f_X8_smooth at h
  have lkf52 := hts (.fieldLink RX8 52 "TiedToTownModel" "ropeMany" "[I") (List.mem_of_getElem? (i := 1) rfl)
  have hinX8 : ∀ w ∈ wsX80, w ∈ wsX8_smooth := fun w h => List.mem_cons_of_mem _ (List.mem_append_right _ h)
  refine lv_iload_n hx hb dX8_smooth_0 rfl (lv_at hl 1 rfl) ?_
  refine lv_i2l hx hb dX8_smooth_1 rfl ?_
  refine lv_lconst (v := (0 : Int64)) hx hb dX8_smooth_2 (by decide) ?_
  refine lv_lconst (v := (1 : Int64)) hx hb dX8_smooth_3 (by decide) ?_
  obtain ⟨z1, hz1, h⟩ := bd_some h
  refine cR_S (As := [.long x1.toInt64, .long (0 : Int64), .long (1 : Int64)]) (rest := []) ⟨hx, hb, hml, hown, hts⟩ (c_X8_in l D cA  x1.toInt64 (0 : Int64) (1 : Int64) z1 hz1) (va_cwS 3 hts gX8_smooth_X8_in rfl rfl rfl hd_X8_in.2 ⟨(Nat.le_of_ble_eq_true rfl), (Nat.le_of_ble_eq_true rfl)⟩) hK hP [] rfl rfl hl.1 rfl (Nat.le_of_ble_eq_true rfl) dX8_smooth_4 ⟨(Nat.le_of_ble_eq_true rfl), (Nat.le_of_ble_eq_true rfl)⟩ ?_
  refine lv_if_ne (tgt := 12) hx hb dX8_smooth_7 (by decide) (fun hc => ?_) (fun hc => ?_)
  · have h := if_f hc h
    refine lv_aload_n hx hb dX8_smooth_12 rfl (lv_at hl 0 rfl) ?_
    refine va_get (D := D) (ci := 8) (v := .ref (a0 19)) (C := RX8) (T := TX8) (N := 27) hx hb hts hinX8 hown hK.1 hP 0 rfl rfl 18 (by decide) lkf52 (fun _ h9 => h9) rfl dX8_smooth_13 ?_
    refine lv_iload_n hx hb dX8_smooth_16 rfl (lv_at hl 1 rfl) ?_
    obtain ⟨hi2, h⟩ := gd_some h
    refine iald (q0 := 0) (t0 := 0) (j := x1.toNatClampNeg) hx hb hK hP 15 rfl rfl (ck_in hi2) dX8_smooth_17 ?_
    refine lv_topi (fun v3 ev3 => ?_)
    have h := nm_ap ev3 h
    refine lv_istore_n (lv' := [(2, .int v3), (0, .ref (a0 0)), (1, .int x1)]) hx hb dX8_smooth_18 rfl hl (by decide) rfl (fun ls hl => ?_)
    refine lv_aload_n hx hb dX8_smooth_19 rfl (lv_at hl 1 rfl) ?_
    refine va_get (D := D) (ci := 8) (v := .ref (a0 19)) (C := RX8) (T := TX8) (N := 27) hx hb hts hinX8 hown hK.1 hP 0 rfl rfl 18 (by decide) lkf52 (fun _ h9 => h9) rfl dX8_smooth_20 ?_
    refine lv_iload_n hx hb dX8_smooth_23 rfl (lv_at hl 2 rfl) ?_
    refine lv_iconst (v := (0 : Int32)) hx hb dX8_smooth_24 (by decide) ?_
    refine iast (j := x1.toNatClampNeg) (wn := (wX8 cA a0 (sA o0 18 x1.toNatClampNeg (0 : Int32)))) hx hb hK hP hD hS 15 rfl rfl (ck_in hi2) dX8_smooth_25 rfl (fun H locs hP hD hS => ?_)
    obtain ⟨s4, es4⟩ : ∃ z, z = sA o0 18 x1.toNatClampNeg (0 : Int32) := ⟨_, rfl⟩
    rw [← es4] at hP hD
    have h := nm_ap es4 h
    refine lv_iload_n hx hb dX8_smooth_26 rfl (lv_at hl 0 rfl) ?_
    cases h
    exact hend _ _ _ _ hP hD hS dX8_smooth_27
  · have h := if_t hc h
    refine lv_iconst (v := (-1 : Int32)) hx hb dX8_smooth_10 (by decide) ?_
    cases h
    exact hend _ _ _ _ hP hD hS dX8_smooth_11
abbrev rmX8_areUndone : Room := ({ frames := 0, cells := 0, slots := 0, locals := 0 } : Room)
set_option maxHeartbeats 4000000 in
set_option maxRecDepth 100000 in
theorem c_X8_areUndone (l : Launch) (D : va_G) (cA : ClassId) (x0 : Int32) (x1 : Int32) (r : Int32) (h : f_X8_areUndone x0 x1 = some r) : ConR l yX8_areUndone wsX8_areUndone rmX8_areUndone D cA [.int x0, .int x1] ([] : va_W) r := by
  refine ConZ.enter (cc := cX8_areUndone) (maxL := 2) (by decide) rfl (Nat.le_of_ble_eq_true rfl) ?_
  intro p e s m args below meth c Q hx hb hml hown hts hK hP  hend ls hl
  have hl : lv_has ls 2 [(0, .int x0), (1, .int x1)] := hl
  unfold f_X8_areUndone at h
  refine lv_iload_n hx hb dX8_areUndone_0 rfl (lv_at hl 0 rfl) ?_
  refine lv_iconst (v := (2 : Int32)) hx hb dX8_areUndone_1 (by decide) ?_
  refine lv_idiv hx hb dX8_areUndone_2 (by decide) ?_
  refine lv_iload_n hx hb dX8_areUndone_3 rfl (lv_at hl 1 rfl) ?_
  refine lv_iconst (v := (2 : Int32)) hx hb dX8_areUndone_4 (by decide) ?_
  refine lv_idiv hx hb dX8_areUndone_5 (by decide) ?_
  refine lv_icmp_ne (tgt := 18) hx hb dX8_areUndone_6 (by decide) (fun hc => ?_) (fun hc => ?_)
  · have h := if_f hc h
    refine lv_iconst (v := (0 : Int32)) hx hb dX8_areUndone_18 (by decide) ?_
    cases h
    exact hend _ _ (by decide) dX8_areUndone_19
  · have h := if_t hc h
    refine lv_iload_n hx hb dX8_areUndone_9 rfl (lv_at hl 0 rfl) ?_
    refine lv_iload_n hx hb dX8_areUndone_10 rfl (lv_at hl 1 rfl) ?_
    refine lv_icmp_eq (tgt := 18) hx hb dX8_areUndone_11 (by decide) (fun hc => ?_) (fun hc => ?_)
    · have h := if_t hc h
      refine lv_iconst (v := (0 : Int32)) hx hb dX8_areUndone_18 (by decide) ?_
      cases h
      exact hend _ _ (by decide) dX8_areUndone_19
    · have h := if_f hc h
      refine lv_iconst (v := (1 : Int32)) hx hb dX8_areUndone_14 (by decide) ?_
      refine lv_goto (tgt := 19) hx hb dX8_areUndone_15 (by decide) ?_
      cases h
      exact hend _ _ (by decide) dX8_areUndone_19
abbrev rmX8_layLoose : Room := ({ frames := 1, cells := 0, slots := 0, locals := 21 } : Room)
set_option maxHeartbeats 4000000 in
set_option maxRecDepth 100000 in
theorem c_X8_layLoose (l : Launch) (D : va_G) (cA : ClassId) (a0 : (Nat → Nat)) (o0 : Ob) (x1 : Int32) (o0_ : Ob) (h : f_X8_layLoose o0 x1 = some o0_) : ConV l yX8_layLoose wsX8_layLoose rmX8_layLoose D cA [.ref (a0 0), .int x1] (wX8 cA a0 o0) (wX8 cA a0 o0_) := by
  refine ConV.enter (cc := cX8_layLoose) (maxL := 5) (by decide) rfl (Nat.le_of_ble_eq_true rfl) ?_
  intro p e s m args below meth c Q A hx hb hml hown hts hK hP hD hA hend ls hl
  have hS : va_S A s.heap s.heap [] := va_S.rf
  have hl : lv_has ls 5 [(0, .ref (a0 0)), (1, .int x1)] := hl
  unfold f_X8_layLoose at h
  have lkf52 := hts (.fieldLink RX8 52 "TiedToTownModel" "ropeMany" "[I") (List.mem_of_getElem? (i := 1) rfl)
  have hinX8 : ∀ w ∈ wsX80, w ∈ wsX8_layLoose := fun w h => List.mem_cons_of_mem _ (List.mem_append_right _ h)
  have lkf55 := hts (.fieldLink RX8 55 "TiedToTownModel" "ropes" "[I") (List.mem_of_getElem? (i := 2) rfl)
  have lkf67 := hts (.fieldLink RX8 67 "TiedToTownModel" "loosened" "[I") (List.mem_of_getElem? (i := 3) rfl)
  have lkf70 := hts (.fieldLink RX8 70 "TiedToTownModel" "from" "[I") (List.mem_of_getElem? (i := 4) rfl)
  have lkf73 := hts (.fieldLink RX8 73 "TiedToTownModel" "left" "[I") (List.mem_of_getElem? (i := 5) rfl)
  have LP4 : ∀ (x1 : Int32) (n : Nat) (x2 : Int32) (x3 : Int32) (o0 : Ob) (H : Heap) (locs : List Loc) (_ : va_P D vwCl (wX8 cA a0 o0) H) (_ : va_D A (wX8 cA a0 o0)) (_ : va_S A s.heap H locs) (ls : Array Slot) (_ : lv_has ls 5 [(0, .ref (a0 0)), (1, .int x1), (2, .int x2), (3, .int x3)]) (res : Int32 × Ob) (_ : L_X8_layLoose_4 x1 n x2 x3 o0 = some res) (_ : (∀ (H : Heap) (locs : List Loc) (_ : va_P D vwCl (wX8 cA a0 res.2) H) (_ : va_D A (wX8 cA a0 res.2)) (_ : va_S A s.heap H locs) (ls : Array Slot), lv_has ls 5 [(0, .ref (a0 0)), (1, .int x1), (2, .int res.1)] → W p l e rmX8_layLoose s m args below meth c H locs 0 0 Q (F0 m 80 ls []))), W p l e rmX8_layLoose s m args below meth c H locs 0 0 Q (F0 m 4 ls []) := by
    intro x1 n
    induction n with
    | zero =>
      intro x2 x3 o0 H locs hP hD hS ls hl res h K0
      exact absurd h (fun q : (none : Option (Int32 × Ob)) = some res => by cases q)
    | succ n ih =>
      intro x2 x3 o0 H locs hP hD hS ls hl res h K0
      have h : L_X8_layLoose_4_step x1 (L_X8_layLoose_4 x1 n) x2 x3 o0 = some res := h
      unfold L_X8_layLoose_4_step at h
      have JP4_58 : ∀ (x2 : Int32) (x3 : Int32) (x4 : Int32) (o0 : Ob) (H : Heap) (locs : List Loc) (_ : va_P D vwCl (wX8 cA a0 o0) H) (_ : va_D A (wX8 cA a0 o0)) (_ : va_S A s.heap H locs) (ls : Array Slot) (_ : lv_has ls 5 [(0, .ref (a0 0)), (1, .int x1), (2, .int x2), (3, .int x3), (4, .int x4)]) (_ : J_X8_layLoose_58l4 (L_X8_layLoose_4 x1 n) x1 x2 x3 x4 o0 = some res), W p l e rmX8_layLoose s m args below meth c H locs 0 0 Q (F0 m 58 ls []) := by
        intro x2 x3 x4 o0 H locs hP hD hS ls hl h
        unfold J_X8_layLoose_58l4 at h
        refine lv_aload_n hx hb dX8_layLoose_58 rfl (lv_at hl 0 rfl) ?_
        refine va_get (D := D) (ci := 8) (v := .ref (a0 25)) (C := RX8) (T := TX8) (N := 27) hx hb hts hinX8 hown hK.1 hP 0 rfl rfl 24 (by decide) lkf67 (fun _ h9 => h9) rfl dX8_layLoose_59 ?_
        refine lv_bipush (v := (16 : Int32)) hx hb dX8_layLoose_62 (by decide) ?_
        refine lv_iload_n hx hb dX8_layLoose_64 rfl (lv_at hl 1 rfl) ?_
        refine lv_imul hx hb dX8_layLoose_65 ?_
        refine lv_iload_n hx hb dX8_layLoose_66 rfl (lv_at hl 2 rfl) ?_
        refine lv_iadd hx hb dX8_layLoose_67 ?_
        refine lv_iload hx hb dX8_layLoose_68 (lv_at hl 4 rfl) ?_
        obtain ⟨hi1, h⟩ := gd_some h
        refine iast (j := (((16 : Int32) * x1) + x2).toNatClampNeg) (wn := (wX8 cA a0 (sA o0 24 (((16 : Int32) * x1) + x2).toNatClampNeg x4))) hx hb hK hP hD hS 20 rfl rfl (ck_in hi1) dX8_layLoose_70 rfl (fun H locs hP hD hS => ?_)
        obtain ⟨s2, es2⟩ : ∃ z, z = sA o0 24 (((16 : Int32) * x1) + x2).toNatClampNeg x4 := ⟨_, rfl⟩
        rw [← es2] at hP hD
        have h := nm_ap es2 h
        obtain ⟨v3, ev3⟩ : ∃ y : Int32, y = x2 + (1 : Int32) := ⟨_, rfl⟩
        refine lv_iinc (v := v3) (lv' := [(2, .int v3), (0, .ref (a0 0)), (1, .int x1), (3, .int x3), (4, .int x4)]) hx hb dX8_layLoose_71 hl (k := 2) rfl (by rw [ev3]; rfl) (by decide) rfl (fun ls hl => ?_)
        have h := nm_ap ev3 h
        obtain ⟨v4, ev4⟩ : ∃ y : Int32, y = x3 + (1 : Int32) := ⟨_, rfl⟩
        refine lv_iinc (v := v4) (lv' := [(3, .int v4), (2, .int v3), (0, .ref (a0 0)), (1, .int x1), (4, .int x4)]) hx hb dX8_layLoose_74 hl (k := 3) rfl (by rw [ev4]; rfl) (by decide) rfl (fun ls hl => ?_)
        have h := nm_ap ev4 h
        refine lv_goto (tgt := 4) hx hb dX8_layLoose_77 (by decide) ?_
        exact ih v3 v4 s2 _ _ hP hD hS ls (lv_sub hl [2, 3, 1, 0] rfl) _ h K0
      refine lv_iload_n hx hb dX8_layLoose_4 rfl (lv_at hl 3 rfl) ?_
      refine lv_aload_n hx hb dX8_layLoose_5 rfl (lv_at hl 0 rfl) ?_
      refine va_get (D := D) (ci := 8) (v := .ref (a0 19)) (C := RX8) (T := TX8) (N := 27) hx hb hts hinX8 hown hK.1 hP 0 rfl rfl 18 (by decide) lkf52 (fun _ h9 => h9) rfl dX8_layLoose_6 ?_
      refine lv_iload_n hx hb dX8_layLoose_9 rfl (lv_at hl 1 rfl) ?_
      obtain ⟨hi1, h⟩ := gd_some h
      refine iald (q0 := 0) (t0 := 0) (j := x1.toNatClampNeg) hx hb hK hP 15 rfl rfl (ck_in hi1) dX8_layLoose_10 ?_
      refine lv_icmp_ge (tgt := 80) hx hb dX8_layLoose_11 (by decide) (fun hc => ?_) (fun hc => ?_)
      · have h := if_t hc h
        cases h
        exact K0 _ _ hP hD hS _ (lv_sub hl [0, 1, 2] rfl)
      · have h := if_f hc h
        refine lv_aload_n hx hb dX8_layLoose_14 rfl (lv_at hl 0 rfl) ?_
        refine va_get (D := D) (ci := 8) (v := .ref (a0 20)) (C := RX8) (T := TX8) (N := 27) hx hb hts hinX8 hown hK.1 hP 0 rfl rfl 19 (by decide) lkf55 (fun _ h9 => h9) rfl dX8_layLoose_15 ?_
        refine lv_bipush (v := (16 : Int32)) hx hb dX8_layLoose_18 (by decide) ?_
        refine lv_iload_n hx hb dX8_layLoose_20 rfl (lv_at hl 1 rfl) ?_
        refine lv_imul hx hb dX8_layLoose_21 ?_
        refine lv_iload_n hx hb dX8_layLoose_22 rfl (lv_at hl 3 rfl) ?_
        refine lv_iadd hx hb dX8_layLoose_23 ?_
        obtain ⟨hi2, h⟩ := gd_some h
        refine iald (q0 := 0) (t0 := 0) (j := (((16 : Int32) * x1) + x3).toNatClampNeg) hx hb hK hP 16 rfl rfl (ck_in hi2) dX8_layLoose_24 ?_
        refine lv_topi (fun v3 ev3 => ?_)
        have h := nm_ap ev3 h
        refine lv_istore (lv' := [(4, .int v3), (0, .ref (a0 0)), (1, .int x1), (2, .int x2), (3, .int x3)]) hx hb dX8_layLoose_25 hl (by decide) rfl (fun ls hl => ?_)
        refine lv_iload_n hx hb dX8_layLoose_27 rfl (lv_at hl 3 rfl) ?_
        refine lv_if_le (tgt := 58) hx hb dX8_layLoose_28 (by decide) (fun hc => ?_) (fun hc => ?_)
        · have h := if_t hc h
          exact JP4_58 x2 x3 v3 o0 _ _ hP hD hS ls (lv_sub hl [1, 2, 3, 4, 0] rfl) h
        · have h := if_f hc h
          refine lv_aload_n hx hb dX8_layLoose_31 rfl (lv_at hl 1 rfl) ?_
          refine va_get (D := D) (ci := 8) (v := .ref (a0 25)) (C := RX8) (T := TX8) (N := 27) hx hb hts hinX8 hown hK.1 hP 0 rfl rfl 24 (by decide) lkf67 (fun _ h9 => h9) rfl dX8_layLoose_32 ?_
          refine lv_bipush (v := (16 : Int32)) hx hb dX8_layLoose_35 (by decide) ?_
          refine lv_iload_n hx hb dX8_layLoose_37 rfl (lv_at hl 2 rfl) ?_
          refine lv_imul hx hb dX8_layLoose_38 ?_
          refine lv_iload_n hx hb dX8_layLoose_39 rfl (lv_at hl 3 rfl) ?_
          refine lv_iadd hx hb dX8_layLoose_40 ?_
          refine lv_iconst (v := (1 : Int32)) hx hb dX8_layLoose_41 (by decide) ?_
          refine lv_isub hx hb dX8_layLoose_42 ?_
          obtain ⟨hi4, h⟩ := gd_some h
          refine iald (q0 := 0) (t0 := 0) (j := ((((16 : Int32) * x1) + x2) - (1 : Int32)).toNatClampNeg) hx hb hK hP 20 rfl rfl (ck_in hi4) dX8_layLoose_43 ?_
          refine lv_iload hx hb dX8_layLoose_44 (lv_at hl 0 rfl) ?_
          obtain ⟨z5, hz5, h⟩ := bd_some h
          refine cR_S (As := [.int (o0.2 24 ((((16 : Int32) * x1) + x2) - (1 : Int32)).toNatClampNeg), .int v3]) (rest := []) ⟨hx, hb, hml, hown, hts⟩ (c_X8_areUndone l D cA  (o0.2 24 ((((16 : Int32) * x1) + x2) - (1 : Int32)).toNatClampNeg) v3 z5 hz5) (va_cwS 2 hts gX8_layLoose_X8_areUndone rfl rfl rfl hd_X8_areUndone.2 ⟨(Nat.le_of_ble_eq_true rfl), (Nat.le_of_ble_eq_true rfl)⟩) hK hP [] rfl rfl hl.1 rfl (Nat.le_of_ble_eq_true rfl) dX8_layLoose_46 ⟨(Nat.le_of_ble_eq_true rfl), (Nat.le_of_ble_eq_true rfl)⟩ ?_
          refine lv_if_eq (tgt := 58) hx hb dX8_layLoose_49 (by decide) (fun hc => ?_) (fun hc => ?_)
          · have h := if_t hc h
            exact JP4_58 x2 x3 v3 o0 _ _ hP hD hS ls (lv_sub hl [1, 2, 3, 4, 0] rfl) h
          · have h := if_f hc h
            obtain ⟨v6, ev6⟩ : ∃ y : Int32, y = x2 + (-1 : Int32) := ⟨_, rfl⟩
            refine lv_iinc (v := v6) (lv' := [(2, .int v6), (4, .int v3), (0, .ref (a0 0)), (1, .int x1), (3, .int x3)]) hx hb dX8_layLoose_52 hl (k := 3) rfl (by rw [ev6]; rfl) (by decide) rfl (fun ls hl => ?_)
            have h := nm_ap ev6 h
            refine lv_goto (tgt := 74) hx hb dX8_layLoose_55 (by decide) ?_
            obtain ⟨v7, ev7⟩ : ∃ y : Int32, y = x3 + (1 : Int32) := ⟨_, rfl⟩
            refine lv_iinc (v := v7) (lv' := [(3, .int v7), (2, .int v6), (4, .int v3), (0, .ref (a0 0)), (1, .int x1)]) hx hb dX8_layLoose_74 hl (k := 4) rfl (by rw [ev7]; rfl) (by decide) rfl (fun ls hl => ?_)
            have h := nm_ap ev7 h
            refine lv_goto (tgt := 4) hx hb dX8_layLoose_77 (by decide) ?_
            exact ih v6 v7 o0 _ _ hP hD hS ls (lv_sub hl [3, 4, 1, 0] rfl) _ h K0
  refine lv_iconst (v := (0 : Int32)) hx hb dX8_layLoose_0 (by decide) ?_
  refine lv_istore_n (lv' := [(2, .int (0 : Int32)), (0, .ref (a0 0)), (1, .int x1)]) hx hb dX8_layLoose_1 rfl hl (by decide) rfl (fun ls hl => ?_)
  refine lv_iconst (v := (0 : Int32)) hx hb dX8_layLoose_2 (by decide) ?_
  refine lv_istore_n (lv' := [(3, .int (0 : Int32)), (2, .int (0 : Int32)), (0, .ref (a0 0)), (1, .int x1)]) hx hb dX8_layLoose_3 rfl hl (by decide) rfl (fun ls hl => ?_)
  obtain ⟨z1, hz1, h⟩ := bd_some h
  refine LP4 x1 512 (0 : Int32) (0 : Int32) o0 _ _ hP hD hS ls (lv_sub hl [2, 3, 1, 0] rfl) _ hz1 ?_
  · intro H locs hP hD hS ls hl
    refine lv_aload_n hx hb dX8_layLoose_80 rfl (lv_at hl 0 rfl) ?_
    refine va_get (D := D) (ci := 8) (v := .ref (a0 26)) (C := RX8) (T := TX8) (N := 27) hx hb hts hinX8 hown hK.1 hP 0 rfl rfl 25 (by decide) lkf70 (fun _ h9 => h9) rfl dX8_layLoose_81 ?_
    refine lv_iload_n hx hb dX8_layLoose_84 rfl (lv_at hl 1 rfl) ?_
    refine lv_iconst (v := (0 : Int32)) hx hb dX8_layLoose_85 (by decide) ?_
    obtain ⟨hi2, h⟩ := gd_some h
    refine iast (j := x1.toNatClampNeg) (wn := (wX8 cA a0 (sA z1.2 25 x1.toNatClampNeg (0 : Int32)))) hx hb hK hP hD hS 21 rfl rfl (ck_in hi2) dX8_layLoose_86 rfl (fun H locs hP hD hS => ?_)
    obtain ⟨s3, es3⟩ : ∃ z, z = sA z1.2 25 x1.toNatClampNeg (0 : Int32) := ⟨_, rfl⟩
    rw [← es3] at hP hD
    have h := nm_ap es3 h
    refine lv_aload_n hx hb dX8_layLoose_87 rfl (lv_at hl 0 rfl) ?_
    refine va_get (D := D) (ci := 8) (v := .ref (a0 27)) (C := RX8) (T := TX8) (N := 27) hx hb hts hinX8 hown hK.1 hP 0 rfl rfl 26 (by decide) lkf73 (fun _ h9 => h9) rfl dX8_layLoose_88 ?_
    refine lv_iload_n hx hb dX8_layLoose_91 rfl (lv_at hl 1 rfl) ?_
    refine lv_iload_n hx hb dX8_layLoose_92 rfl (lv_at hl 2 rfl) ?_
    refine iast (j := x1.toNatClampNeg) (wn := (wX8 cA a0 (sA s3 26 x1.toNatClampNeg z1.1))) hx hb hK hP hD hS 22 rfl rfl (ck_in hi2) dX8_layLoose_93 rfl (fun H locs hP hD hS => ?_)
    obtain ⟨s4, es4⟩ : ∃ z, z = sA s3 26 x1.toNatClampNeg z1.1 := ⟨_, rfl⟩
    rw [← es4] at hP hD
    have h := nm_ap es4 h
    cases h
    exact hend _ _ _ _ hP hD hS dX8_layLoose_94
abbrev rmX8_loose : Room := ({ frames := 2, cells := 0, slots := 0, locals := 45 } : Room)
set_option maxHeartbeats 4000000 in
set_option maxRecDepth 100000 in
theorem c_X8_loose (l : Launch) (D : va_G) (cA : ClassId) (a0 : (Nat → Nat)) (o0 : Ob) (x1 : Int32) (x2 : Int32) (r : Int32) (o0_ : Ob) (h : f_X8_loose o0 x1 x2 = some (r, o0_)) : ConW l yX8_loose wsX8_loose rmX8_loose D cA [.ref (a0 0), .int x1, .int x2] (wX8 cA a0 o0) r (wX8 cA a0 o0_) := by
  refine ConW.enter (cc := cX8_loose) (maxL := 3) (by decide) rfl (Nat.le_of_ble_eq_true rfl) ?_
  intro p e s m args below meth c Q A hx hb hml hown hts hK hP hD hA hend ls hl
  have hS : va_S A s.heap s.heap [] := va_S.rf
  have hl : lv_has ls 3 [(0, .ref (a0 0)), (1, .int x1), (2, .int x2)] := hl
  unfold f_X8_loose at h
  have lkf73 := hts (.fieldLink RX8 73 "TiedToTownModel" "left" "[I") (List.mem_of_getElem? (i := 1) rfl)
  have hinX8 : ∀ w ∈ wsX80, w ∈ wsX8_loose := fun w h => List.mem_cons_of_mem _ (List.mem_append_right _ h)
  have lkf67 := hts (.fieldLink RX8 67 "TiedToTownModel" "loosened" "[I") (List.mem_of_getElem? (i := 2) rfl)
  refine lv_iload_n hx hb dX8_loose_0 rfl (lv_at hl 1 rfl) ?_
  refine lv_i2l hx hb dX8_loose_1 rfl ?_
  refine lv_lconst (v := (0 : Int64)) hx hb dX8_loose_2 (by decide) ?_
  refine lv_lconst (v := (1 : Int64)) hx hb dX8_loose_3 (by decide) ?_
  obtain ⟨z1, hz1, h⟩ := bd_some h
  refine cR_S (As := [.long x1.toInt64, .long (0 : Int64), .long (1 : Int64)]) (rest := []) ⟨hx, hb, hml, hown, hts⟩ (c_X8_in l D cA  x1.toInt64 (0 : Int64) (1 : Int64) z1 hz1) (va_cwS 3 hts gX8_loose_X8_in rfl rfl rfl hd_X8_in.2 ⟨(Nat.le_of_ble_eq_true rfl), (Nat.le_of_ble_eq_true rfl)⟩) hK hP [] rfl rfl hl.1 rfl (Nat.le_of_ble_eq_true rfl) dX8_loose_4 ⟨(Nat.le_of_ble_eq_true rfl), (Nat.le_of_ble_eq_true rfl)⟩ ?_
  refine lv_if_eq (tgt := 15) hx hb dX8_loose_7 (by decide) (fun hc => ?_) (fun hc => ?_)
  · have h := if_t hc h
    refine lv_iconst (v := (-1 : Int32)) hx hb dX8_loose_15 (by decide) ?_
    cases h
    exact hend _ _ _ _ hP hD hS dX8_loose_16
  · have h := if_f hc h
    refine lv_iload_n hx hb dX8_loose_10 rfl (lv_at hl 2 rfl) ?_
    refine lv_iconst (v := (-1 : Int32)) hx hb dX8_loose_11 (by decide) ?_
    refine lv_icmp_ge (tgt := 17) hx hb dX8_loose_12 (by decide) (fun hc => ?_) (fun hc => ?_)
    · have h := if_t hc h
      refine lv_aload_n hx hb dX8_loose_17 rfl (lv_at hl 0 rfl) ?_
      refine lv_iload_n hx hb dX8_loose_18 rfl (lv_at hl 1 rfl) ?_
      obtain ⟨z2, hz2, h⟩ := bd_some h
      refine cV_V (As := [.int x1]) (rest := []) (wn := (wX8 cA a0 z2)) ⟨hx, hb, hml, hown, hts⟩ (c_X8_layLoose l D cA a0 o0 x1  z2 hz2) (cwV 1 hts gX8_loose_X8_layLoose rfl rfl rfl hd_X8_layLoose ⟨(Nat.le_of_ble_eq_true rfl), (Nat.le_of_ble_eq_true rfl)⟩) (recvK hK hP 0 8 rfl rfl) hK hP hD hS hA [0, 1, 2, 3, 4, 5, 6, 7, 8, 9, 10, 11, 12, 13, 14, 15, 16, 17, 18, 19, 20, 21, 22] [] [0, 1, 2, 3, 4, 5, 6, 7, 8, 9, 10, 11, 12, 13, 14, 15, 16, 17, 18, 19, 20, 21, 22] rfl rfl rfl rfl rfl rfl rfl rfl hl.1 rfl (Nat.le_of_ble_eq_true rfl) dX8_loose_19 ⟨(Nat.le_of_ble_eq_true rfl), (Nat.le_of_ble_eq_true rfl)⟩ (fun H locs hP hD hS => ?_)
      refine lv_iload_n hx hb dX8_loose_22 rfl (lv_at hl 2 rfl) ?_
      refine lv_if_ge (tgt := 35) hx hb dX8_loose_23 (by decide) (fun hc => ?_) (fun hc => ?_)
      · have h := if_t hc h
        refine lv_iload_n hx hb dX8_loose_35 rfl (lv_at hl 2 rfl) ?_
        refine lv_aload_n hx hb dX8_loose_36 rfl (lv_at hl 0 rfl) ?_
        refine va_get (D := D) (ci := 8) (v := .ref (a0 27)) (C := RX8) (T := TX8) (N := 27) hx hb hts hinX8 hown hK.1 hP 0 rfl rfl 26 (by decide) lkf73 (fun _ h9 => h9) rfl dX8_loose_37 ?_
        refine lv_iload_n hx hb dX8_loose_40 rfl (lv_at hl 1 rfl) ?_
        obtain ⟨hi3, h⟩ := gd_some h
        refine iald (q0 := 0) (t0 := 0) (j := x1.toNatClampNeg) hx hb hK hP 22 rfl rfl (ck_in hi3) dX8_loose_41 ?_
        refine lv_icmp_ge (tgt := 59) hx hb dX8_loose_42 (by decide) (fun hc => ?_) (fun hc => ?_)
        · have h := if_t hc h
          refine lv_bipush (v := (-4 : Int32)) hx hb dX8_loose_59 (by decide) ?_
          cases h
          exact hend _ _ _ _ hP hD hS dX8_loose_61
        · have h := if_f hc h
          refine lv_aload_n hx hb dX8_loose_45 rfl (lv_at hl 0 rfl) ?_
          refine va_get (D := D) (ci := 8) (v := .ref (a0 25)) (C := RX8) (T := TX8) (N := 27) hx hb hts hinX8 hown hK.1 hP 0 rfl rfl 24 (by decide) lkf67 (fun _ h9 => h9) rfl dX8_loose_46 ?_
          refine lv_bipush (v := (16 : Int32)) hx hb dX8_loose_49 (by decide) ?_
          refine lv_iload_n hx hb dX8_loose_51 rfl (lv_at hl 1 rfl) ?_
          refine lv_imul hx hb dX8_loose_52 ?_
          refine lv_iload_n hx hb dX8_loose_53 rfl (lv_at hl 2 rfl) ?_
          refine lv_iadd hx hb dX8_loose_54 ?_
          obtain ⟨hi4, h⟩ := gd_some h
          refine iald (q0 := 0) (t0 := 0) (j := (((16 : Int32) * x1) + x2).toNatClampNeg) hx hb hK hP 20 rfl rfl (ck_in hi4) dX8_loose_55 ?_
          refine lv_goto (tgt := 61) hx hb dX8_loose_56 (by decide) ?_
          cases h
          exact hend _ _ _ _ hP hD hS dX8_loose_61
      · have h := if_f hc h
        refine lv_aload_n hx hb dX8_loose_26 rfl (lv_at hl 0 rfl) ?_
        refine va_get (D := D) (ci := 8) (v := .ref (a0 27)) (C := RX8) (T := TX8) (N := 27) hx hb hts hinX8 hown hK.1 hP 0 rfl rfl 26 (by decide) lkf73 (fun _ h9 => h9) rfl dX8_loose_27 ?_
        refine lv_iload_n hx hb dX8_loose_30 rfl (lv_at hl 1 rfl) ?_
        obtain ⟨hi5, h⟩ := gd_some h
        refine iald (q0 := 0) (t0 := 0) (j := x1.toNatClampNeg) hx hb hK hP 22 rfl rfl (ck_in hi5) dX8_loose_31 ?_
        refine lv_goto (tgt := 61) hx hb dX8_loose_32 (by decide) ?_
        cases h
        exact hend _ _ _ _ hP hD hS dX8_loose_61
    · have h := if_f hc h
      refine lv_iconst (v := (-1 : Int32)) hx hb dX8_loose_15 (by decide) ?_
      cases h
      exact hend _ _ _ _ hP hD hS dX8_loose_16
abbrev rmX8_layRound : Room := ({ frames := 1, cells := 0, slots := 0, locals := 21 } : Room)
set_option maxHeartbeats 4000000 in
set_option maxRecDepth 100000 in
theorem c_X8_layRound (l : Launch) (D : va_G) (cA : ClassId) (a0 : (Nat → Nat)) (o0 : Ob) (x1 : Int32) (o0_ : Ob) (h : f_X8_layRound o0 x1 = some o0_) : ConV l yX8_layRound wsX8_layRound rmX8_layRound D cA [.ref (a0 0), .int x1] (wX8 cA a0 o0) (wX8 cA a0 o0_) := by
  refine ConV.enter (cc := cX8_layRound) (maxL := 2) (by decide) rfl (Nat.le_of_ble_eq_true rfl) ?_
  intro p e s m args below meth c Q A hx hb hml hown hts hK hP hD hA hend ls hl
  have hS : va_S A s.heap s.heap [] := va_S.rf
  have hl : lv_has ls 2 [(0, .ref (a0 0)), (1, .int x1)] := hl
  unfold f_X8_layRound at h
  have lkf73 := hts (.fieldLink RX8 73 "TiedToTownModel" "left" "[I") (List.mem_of_getElem? (i := 1) rfl)
  have hinX8 : ∀ w ∈ wsX80, w ∈ wsX8_layRound := fun w h => List.mem_cons_of_mem _ (List.mem_append_right _ h)
  have lkf67 := hts (.fieldLink RX8 67 "TiedToTownModel" "loosened" "[I") (List.mem_of_getElem? (i := 2) rfl)
  have lkf70 := hts (.fieldLink RX8 70 "TiedToTownModel" "from" "[I") (List.mem_of_getElem? (i := 3) rfl)
  have LP0 : ∀ (x1 : Int32) (n : Nat) (o0 : Ob) (H : Heap) (locs : List Loc) (_ : va_P D vwCl (wX8 cA a0 o0) H) (_ : va_D A (wX8 cA a0 o0)) (_ : va_S A s.heap H locs) (ls : Array Slot) (_ : lv_has ls 2 [(0, .ref (a0 0)), (1, .int x1)]) (res : Ob) (_ : L_X8_layRound_0 x1 n o0 = some res) (_ : (∀ (H : Heap) (locs : List Loc) (_ : va_P D vwCl (wX8 cA a0 res) H) (_ : va_D A (wX8 cA a0 res)) (_ : va_S A s.heap H locs) (ls : Array Slot), lv_has ls 2 [] → W p l e rmX8_layRound s m args below meth c H locs 0 0 Q (F0 m 80 ls []))), W p l e rmX8_layRound s m args below meth c H locs 0 0 Q (F0 m 0 ls []) := by
    intro x1 n
    induction n with
    | zero =>
      intro o0 H locs hP hD hS ls hl res h K0
      exact absurd h (fun q : (none : Option (Ob)) = some res => by cases q)
    | succ n ih =>
      intro o0 H locs hP hD hS ls hl res h K0
      have h : L_X8_layRound_0_step x1 (L_X8_layRound_0 x1 n) o0 = some res := h
      unfold L_X8_layRound_0_step at h
      refine lv_aload_n hx hb dX8_layRound_0 rfl (lv_at hl 0 rfl) ?_
      refine va_get (D := D) (ci := 8) (v := .ref (a0 27)) (C := RX8) (T := TX8) (N := 27) hx hb hts hinX8 hown hK.1 hP 0 rfl rfl 26 (by decide) lkf73 (fun _ h9 => h9) rfl dX8_layRound_1 ?_
      refine lv_iload_n hx hb dX8_layRound_4 rfl (lv_at hl 1 rfl) ?_
      obtain ⟨hi1, h⟩ := gd_some h
      refine iald (q0 := 0) (t0 := 0) (j := x1.toNatClampNeg) hx hb hK hP 22 rfl rfl (ck_in hi1) dX8_layRound_5 ?_
      refine lv_iconst (v := (1 : Int32)) hx hb dX8_layRound_6 (by decide) ?_
      refine lv_icmp_le (tgt := 80) hx hb dX8_layRound_7 (by decide) (fun hc => ?_) (fun hc => ?_)
      · have h := if_t hc h
        cases h
        exact K0 _ _ hP hD hS _ (lv_sub hl [] rfl)
      · have h := if_f hc h
        refine lv_aload_n hx hb dX8_layRound_10 rfl (lv_at hl 0 rfl) ?_
        refine va_get (D := D) (ci := 8) (v := .ref (a0 25)) (C := RX8) (T := TX8) (N := 27) hx hb hts hinX8 hown hK.1 hP 0 rfl rfl 24 (by decide) lkf67 (fun _ h9 => h9) rfl dX8_layRound_11 ?_
        refine lv_bipush (v := (16 : Int32)) hx hb dX8_layRound_14 (by decide) ?_
        refine lv_iload_n hx hb dX8_layRound_16 rfl (lv_at hl 1 rfl) ?_
        refine lv_imul hx hb dX8_layRound_17 ?_
        refine lv_aload_n hx hb dX8_layRound_18 rfl (lv_at hl 0 rfl) ?_
        refine va_get (D := D) (ci := 8) (v := .ref (a0 26)) (C := RX8) (T := TX8) (N := 27) hx hb hts hinX8 hown hK.1 hP 0 rfl rfl 25 (by decide) lkf70 (fun _ h9 => h9) rfl dX8_layRound_19 ?_
        refine lv_iload_n hx hb dX8_layRound_22 rfl (lv_at hl 1 rfl) ?_
        refine iald (q0 := 0) (t0 := 0) (j := x1.toNatClampNeg) hx hb hK hP 21 rfl rfl (ck_in hi1) dX8_layRound_23 ?_
        refine lv_iadd hx hb dX8_layRound_24 ?_
        obtain ⟨hi2, h⟩ := gd_some h
        refine iald (q0 := 0) (t0 := 0) (j := (((16 : Int32) * x1) + (o0.2 25 x1.toNatClampNeg)).toNatClampNeg) hx hb hK hP 20 rfl rfl (ck_in hi2) dX8_layRound_25 ?_
        refine lv_aload_n hx hb dX8_layRound_26 rfl (lv_at hl 0 rfl) ?_
        refine va_get (D := D) (ci := 8) (v := .ref (a0 25)) (C := RX8) (T := TX8) (N := 27) hx hb hts hinX8 hown hK.1 hP 0 rfl rfl 24 (by decide) lkf67 (fun _ h9 => h9) rfl dX8_layRound_27 ?_
        refine lv_bipush (v := (16 : Int32)) hx hb dX8_layRound_30 (by decide) ?_
        refine lv_iload_n hx hb dX8_layRound_32 rfl (lv_at hl 1 rfl) ?_
        refine lv_imul hx hb dX8_layRound_33 ?_
        refine lv_aload_n hx hb dX8_layRound_34 rfl (lv_at hl 0 rfl) ?_
        refine va_get (D := D) (ci := 8) (v := .ref (a0 26)) (C := RX8) (T := TX8) (N := 27) hx hb hts hinX8 hown hK.1 hP 0 rfl rfl 25 (by decide) lkf70 (fun _ h9 => h9) rfl dX8_layRound_35 ?_
        refine lv_iload_n hx hb dX8_layRound_38 rfl (lv_at hl 1 rfl) ?_
        refine iald (q0 := 0) (t0 := 0) (j := x1.toNatClampNeg) hx hb hK hP 21 rfl rfl (ck_in hi1) dX8_layRound_39 ?_
        refine lv_iadd hx hb dX8_layRound_40 ?_
        refine lv_aload_n hx hb dX8_layRound_41 rfl (lv_at hl 0 rfl) ?_
        refine va_get (D := D) (ci := 8) (v := .ref (a0 27)) (C := RX8) (T := TX8) (N := 27) hx hb hts hinX8 hown hK.1 hP 0 rfl rfl 26 (by decide) lkf73 (fun _ h9 => h9) rfl dX8_layRound_42 ?_
        refine lv_iload_n hx hb dX8_layRound_45 rfl (lv_at hl 1 rfl) ?_
        refine iald (q0 := 0) (t0 := 0) (j := x1.toNatClampNeg) hx hb hK hP 22 rfl rfl (ck_in hi1) dX8_layRound_46 ?_
        refine lv_iadd hx hb dX8_layRound_47 ?_
        refine lv_iconst (v := (1 : Int32)) hx hb dX8_layRound_48 (by decide) ?_
        refine lv_isub hx hb dX8_layRound_49 ?_
        obtain ⟨hi3, h⟩ := gd_some h
        refine iald (q0 := 0) (t0 := 0) (j := (((((16 : Int32) * x1) + (o0.2 25 x1.toNatClampNeg)) + (o0.2 26 x1.toNatClampNeg)) - (1 : Int32)).toNatClampNeg) hx hb hK hP 20 rfl rfl (ck_in hi3) dX8_layRound_50 ?_
        obtain ⟨z4, hz4, h⟩ := bd_some h
        refine cR_S (As := [.int (o0.2 24 (((16 : Int32) * x1) + (o0.2 25 x1.toNatClampNeg)).toNatClampNeg), .int (o0.2 24 (((((16 : Int32) * x1) + (o0.2 25 x1.toNatClampNeg)) + (o0.2 26 x1.toNatClampNeg)) - (1 : Int32)).toNatClampNeg)]) (rest := []) ⟨hx, hb, hml, hown, hts⟩ (c_X8_areUndone l D cA  (o0.2 24 (((16 : Int32) * x1) + (o0.2 25 x1.toNatClampNeg)).toNatClampNeg) (o0.2 24 (((((16 : Int32) * x1) + (o0.2 25 x1.toNatClampNeg)) + (o0.2 26 x1.toNatClampNeg)) - (1 : Int32)).toNatClampNeg) z4 hz4) (va_cwS 2 hts gX8_layRound_X8_areUndone rfl rfl rfl hd_X8_areUndone.2 ⟨(Nat.le_of_ble_eq_true rfl), (Nat.le_of_ble_eq_true rfl)⟩) hK hP [] rfl rfl hl.1 rfl (Nat.le_of_ble_eq_true rfl) dX8_layRound_51 ⟨(Nat.le_of_ble_eq_true rfl), (Nat.le_of_ble_eq_true rfl)⟩ ?_
        refine lv_if_eq (tgt := 80) hx hb dX8_layRound_54 (by decide) (fun hc => ?_) (fun hc => ?_)
        · have h := if_t hc h
          cases h
          exact K0 _ _ hP hD hS _ (lv_sub hl [] rfl)
        · have h := if_f hc h
          refine lv_aload_n hx hb dX8_layRound_57 rfl (lv_at hl 0 rfl) ?_
          refine va_get (D := D) (ci := 8) (v := .ref (a0 26)) (C := RX8) (T := TX8) (N := 27) hx hb hts hinX8 hown hK.1 hP 0 rfl rfl 25 (by decide) lkf70 (fun _ h9 => h9) rfl dX8_layRound_58 ?_
          refine lv_iload_n hx hb dX8_layRound_61 rfl (lv_at hl 1 rfl) ?_
          refine lv_dup2_11 hx hb dX8_layRound_62 rfl rfl ?_
          refine iald (q0 := 0) (t0 := 0) (j := x1.toNatClampNeg) hx hb hK hP 21 rfl rfl (ck_in hi1) dX8_layRound_63 ?_
          refine lv_iconst (v := (1 : Int32)) hx hb dX8_layRound_64 (by decide) ?_
          refine lv_iadd hx hb dX8_layRound_65 ?_
          refine iast (j := x1.toNatClampNeg) (wn := (wX8 cA a0 (sA o0 25 x1.toNatClampNeg ((o0.2 25 x1.toNatClampNeg) + (1 : Int32))))) hx hb hK hP hD hS 21 rfl rfl (ck_in hi1) dX8_layRound_66 rfl (fun H locs hP hD hS => ?_)
          obtain ⟨s5, es5⟩ : ∃ z, z = sA o0 25 x1.toNatClampNeg ((o0.2 25 x1.toNatClampNeg) + (1 : Int32)) := ⟨_, rfl⟩
          rw [← es5] at hP hD
          have h := nm_ap es5 h
          refine lv_aload_n hx hb dX8_layRound_67 rfl (lv_at hl 0 rfl) ?_
          refine va_get (D := D) (ci := 8) (v := .ref (a0 27)) (C := RX8) (T := TX8) (N := 27) hx hb hts hinX8 hown hK.1 hP 0 rfl rfl 26 (by decide) lkf73 (fun _ h9 => h9) rfl dX8_layRound_68 ?_
          refine lv_iload_n hx hb dX8_layRound_71 rfl (lv_at hl 1 rfl) ?_
          refine lv_dup2_11 hx hb dX8_layRound_72 rfl rfl ?_
          refine iald (q0 := 0) (t0 := 0) (j := x1.toNatClampNeg) hx hb hK hP 22 rfl rfl (ck_in hi1) dX8_layRound_73 ?_
          refine lv_iconst (v := (2 : Int32)) hx hb dX8_layRound_74 (by decide) ?_
          refine lv_isub hx hb dX8_layRound_75 ?_
          refine iast (j := x1.toNatClampNeg) (wn := (wX8 cA a0 (sA s5 26 x1.toNatClampNeg ((s5.2 26 x1.toNatClampNeg) - (2 : Int32))))) hx hb hK hP hD hS 22 rfl rfl (ck_in hi1) dX8_layRound_76 rfl (fun H locs hP hD hS => ?_)
          obtain ⟨s6, es6⟩ : ∃ z, z = sA s5 26 x1.toNatClampNeg ((s5.2 26 x1.toNatClampNeg) - (2 : Int32)) := ⟨_, rfl⟩
          rw [← es6] at hP hD
          have h := nm_ap es6 h
          refine lv_goto (tgt := 0) hx hb dX8_layRound_77 (by decide) ?_
          exact ih s6 _ _ hP hD hS ls (lv_sub hl [0, 1] rfl) _ h K0
  obtain ⟨z1, hz1, h⟩ := bd_some h
  refine LP0 x1 512 o0 _ _ hP hD hS ls (lv_sub hl [0, 1] rfl) _ hz1 ?_
  · intro H locs hP hD hS ls hl
    cases h
    exact hend _ _ _ _ hP hD hS dX8_layRound_80
abbrev rmX8_isTurned : Room := ({ frames := 0, cells := 0, slots := 0, locals := 0 } : Room)
set_option maxHeartbeats 4000000 in
set_option maxRecDepth 100000 in
theorem c_X8_isTurned (l : Launch) (D : va_G) (cA : ClassId) (a0 : (Nat → Nat)) (o0 : Ob) (x1 : Int32) (r : Int32) (h : f_X8_isTurned o0 x1 = some r) : ConR l yX8_isTurned wsX8_isTurned rmX8_isTurned D cA [.ref (a0 0), .int x1] (wX8 cA a0 o0) r := by
  refine ConZ.enter (cc := cX8_isTurned) (maxL := 4) (by decide) rfl (Nat.le_of_ble_eq_true rfl) ?_
  intro p e s m args below meth c Q hx hb hml hown hts hK hP  hend ls hl
  have hl : lv_has ls 4 [(0, .ref (a0 0)), (1, .int x1)] := hl
  unfold f_X8_isTurned at h
  have lkf73 := hts (.fieldLink RX8 73 "TiedToTownModel" "left" "[I") (List.mem_of_getElem? (i := 1) rfl)
  have hinX8 : ∀ w ∈ wsX80, w ∈ wsX8_isTurned := fun w h => List.mem_cons_of_mem _ (List.mem_append_right _ h)
  have lkf67 := hts (.fieldLink RX8 67 "TiedToTownModel" "loosened" "[I") (List.mem_of_getElem? (i := 2) rfl)
  have lkf70 := hts (.fieldLink RX8 70 "TiedToTownModel" "from" "[I") (List.mem_of_getElem? (i := 3) rfl)
  have LP4 : ∀ (x1 : Int32) (n : Nat) (x2 : Int32) (x3 : Int32) (ls : Array Slot) (_ : lv_has ls 4 [(0, .ref (a0 0)), (1, .int x1), (2, .int x2), (3, .int x3)]) (res : Int32) (_ : L_X8_isTurned_4 x1 o0 n x2 x3 = some res) (_ : (∀ (ls : Array Slot), lv_has ls 4 [(2, .int res)] → W p l e rmX8_isTurned s m args below meth c s.heap [] 0 0 Q (F0 m 71 ls []))), W p l e rmX8_isTurned s m args below meth c s.heap [] 0 0 Q (F0 m 4 ls []) := by
    intro x1 n
    induction n with
    | zero =>
      intro x2 x3 ls hl res h K0
      exact absurd h (fun q : (none : Option (Int32)) = some res => by cases q)
    | succ n ih =>
      intro x2 x3 ls hl res h K0
      have h : L_X8_isTurned_4_step x1 o0 (L_X8_isTurned_4 x1 o0 n) x2 x3 = some res := h
      unfold L_X8_isTurned_4_step at h
      refine lv_iload_n hx hb dX8_isTurned_4 rfl (lv_at hl 3 rfl) ?_
      refine lv_aload_n hx hb dX8_isTurned_5 rfl (lv_at hl 0 rfl) ?_
      refine va_get (D := D) (ci := 8) (v := .ref (a0 27)) (C := RX8) (T := TX8) (N := 27) hx hb hts hinX8 hown hK.1 hP 0 rfl rfl 26 (by decide) lkf73 (fun _ h9 => h9) rfl dX8_isTurned_6 ?_
      refine lv_iconst (v := (0 : Int32)) hx hb dX8_isTurned_9 (by decide) ?_
      refine iald (q0 := 0) (t0 := 0) (j := 0) hx hb hK hP 22 rfl rfl (vp_in_iff.mpr (by decide)) dX8_isTurned_10 ?_
      refine lv_icmp_ge (tgt := 71) hx hb dX8_isTurned_11 (by decide) (fun hc => ?_) (fun hc => ?_)
      · have h := if_t hc h
        cases h
        exact K0 _ (lv_sub hl [2] rfl)
      · have h := if_f hc h
        refine lv_iload_n hx hb dX8_isTurned_14 rfl (lv_at hl 2 rfl) ?_
        refine lv_if_eq (tgt := 63) hx hb dX8_isTurned_15 (by decide) (fun hc => ?_) (fun hc => ?_)
        · have h := if_t hc h
          refine lv_iconst (v := (0 : Int32)) hx hb dX8_isTurned_63 (by decide) ?_
          refine lv_istore_n (lv' := [(2, .int (0 : Int32)), (0, .ref (a0 0)), (1, .int x1), (3, .int x3)]) hx hb dX8_isTurned_64 rfl hl (by decide) rfl (fun ls hl => ?_)
          obtain ⟨v1, ev1⟩ : ∃ y : Int32, y = x3 + (1 : Int32) := ⟨_, rfl⟩
          refine lv_iinc (v := v1) (lv' := [(3, .int v1), (2, .int (0 : Int32)), (0, .ref (a0 0)), (1, .int x1)]) hx hb dX8_isTurned_65 hl (k := 3) rfl (by rw [ev1]; rfl) (by decide) rfl (fun ls hl => ?_)
          have h := nm_ap ev1 h
          refine lv_goto (tgt := 4) hx hb dX8_isTurned_68 (by decide) ?_
          exact ih (0 : Int32) v1 ls (lv_sub hl [2, 3, 1, 0] rfl) _ h K0
        · have h := if_f hc h
          refine lv_aload_n hx hb dX8_isTurned_18 rfl (lv_at hl 0 rfl) ?_
          refine va_get (D := D) (ci := 8) (v := .ref (a0 25)) (C := RX8) (T := TX8) (N := 27) hx hb hts hinX8 hown hK.1 hP 0 rfl rfl 24 (by decide) lkf67 (fun _ h9 => h9) rfl dX8_isTurned_19 ?_
          refine lv_aload_n hx hb dX8_isTurned_22 rfl (lv_at hl 0 rfl) ?_
          refine va_get (D := D) (ci := 8) (v := .ref (a0 26)) (C := RX8) (T := TX8) (N := 27) hx hb hts hinX8 hown hK.1 hP 0 rfl rfl 25 (by decide) lkf70 (fun _ h9 => h9) rfl dX8_isTurned_23 ?_
          refine lv_iconst (v := (0 : Int32)) hx hb dX8_isTurned_26 (by decide) ?_
          refine iald (q0 := 0) (t0 := 0) (j := 0) hx hb hK hP 21 rfl rfl (vp_in_iff.mpr (by decide)) dX8_isTurned_27 ?_
          refine lv_iload_n hx hb dX8_isTurned_28 rfl (lv_at hl 3 rfl) ?_
          refine lv_iload_n hx hb dX8_isTurned_29 rfl (lv_at hl 1 rfl) ?_
          refine lv_iadd hx hb dX8_isTurned_30 ?_
          refine lv_aload_n hx hb dX8_isTurned_31 rfl (lv_at hl 0 rfl) ?_
          refine va_get (D := D) (ci := 8) (v := .ref (a0 27)) (C := RX8) (T := TX8) (N := 27) hx hb hts hinX8 hown hK.1 hP 0 rfl rfl 26 (by decide) lkf73 (fun _ h9 => h9) rfl dX8_isTurned_32 ?_
          refine lv_iconst (v := (0 : Int32)) hx hb dX8_isTurned_35 (by decide) ?_
          refine iald (q0 := 0) (t0 := 0) (j := 0) hx hb hK hP 22 rfl rfl (vp_in_iff.mpr (by decide)) dX8_isTurned_36 ?_
          obtain ⟨hn2, h⟩ := gd_some h
          refine lv_irem hx hb dX8_isTurned_37 (of_decide_eq_true hn2) ?_
          refine lv_iadd hx hb dX8_isTurned_38 ?_
          obtain ⟨hi3, h⟩ := gd_some h
          refine iald (q0 := 0) (t0 := 0) (j := ((o0.2 25 0) + ((x3 + x1) - (x3 + x1) / (o0.2 26 0) * (o0.2 26 0))).toNatClampNeg) hx hb hK hP 20 rfl rfl (ck_in hi3) dX8_isTurned_39 ?_
          refine lv_aload_n hx hb dX8_isTurned_40 rfl (lv_at hl 0 rfl) ?_
          refine va_get (D := D) (ci := 8) (v := .ref (a0 25)) (C := RX8) (T := TX8) (N := 27) hx hb hts hinX8 hown hK.1 hP 0 rfl rfl 24 (by decide) lkf67 (fun _ h9 => h9) rfl dX8_isTurned_41 ?_
          refine lv_bipush (v := (16 : Int32)) hx hb dX8_isTurned_44 (by decide) ?_
          refine lv_aload_n hx hb dX8_isTurned_46 rfl (lv_at hl 0 rfl) ?_
          refine va_get (D := D) (ci := 8) (v := .ref (a0 26)) (C := RX8) (T := TX8) (N := 27) hx hb hts hinX8 hown hK.1 hP 0 rfl rfl 25 (by decide) lkf70 (fun _ h9 => h9) rfl dX8_isTurned_47 ?_
          refine lv_iconst (v := (1 : Int32)) hx hb dX8_isTurned_50 (by decide) ?_
          refine iald (q0 := 0) (t0 := 0) (j := 1) hx hb hK hP 21 rfl rfl (vp_in_iff.mpr (by decide)) dX8_isTurned_51 ?_
          refine lv_iadd hx hb dX8_isTurned_52 ?_
          refine lv_iload_n hx hb dX8_isTurned_53 rfl (lv_at hl 3 rfl) ?_
          refine lv_iadd hx hb dX8_isTurned_54 ?_
          obtain ⟨hi4, h⟩ := gd_some h
          refine iald (q0 := 0) (t0 := 0) (j := (((16 : Int32) + (o0.2 25 1)) + x3).toNatClampNeg) hx hb hK hP 20 rfl rfl (ck_in hi4) dX8_isTurned_55 ?_
          refine lv_icmp_ne (tgt := 63) hx hb dX8_isTurned_56 (by decide) (fun hc => ?_) (fun hc => ?_)
          · have h := if_f hc h
            refine lv_iconst (v := (0 : Int32)) hx hb dX8_isTurned_63 (by decide) ?_
            refine lv_istore_n (lv' := [(2, .int (0 : Int32)), (0, .ref (a0 0)), (1, .int x1), (3, .int x3)]) hx hb dX8_isTurned_64 rfl hl (by decide) rfl (fun ls hl => ?_)
            obtain ⟨v5, ev5⟩ : ∃ y : Int32, y = x3 + (1 : Int32) := ⟨_, rfl⟩
            refine lv_iinc (v := v5) (lv' := [(3, .int v5), (2, .int (0 : Int32)), (0, .ref (a0 0)), (1, .int x1)]) hx hb dX8_isTurned_65 hl (k := 3) rfl (by rw [ev5]; rfl) (by decide) rfl (fun ls hl => ?_)
            have h := nm_ap ev5 h
            refine lv_goto (tgt := 4) hx hb dX8_isTurned_68 (by decide) ?_
            exact ih (0 : Int32) v5 ls (lv_sub hl [2, 3, 1, 0] rfl) _ h K0
          · have h := if_t hc h
            refine lv_iconst (v := (1 : Int32)) hx hb dX8_isTurned_59 (by decide) ?_
            refine lv_goto (tgt := 64) hx hb dX8_isTurned_60 (by decide) ?_
            refine lv_istore_n (lv' := [(2, .int (1 : Int32)), (0, .ref (a0 0)), (1, .int x1), (3, .int x3)]) hx hb dX8_isTurned_64 rfl hl (by decide) rfl (fun ls hl => ?_)
            obtain ⟨v6, ev6⟩ : ∃ y : Int32, y = x3 + (1 : Int32) := ⟨_, rfl⟩
            refine lv_iinc (v := v6) (lv' := [(3, .int v6), (2, .int (1 : Int32)), (0, .ref (a0 0)), (1, .int x1)]) hx hb dX8_isTurned_65 hl (k := 3) rfl (by rw [ev6]; rfl) (by decide) rfl (fun ls hl => ?_)
            have h := nm_ap ev6 h
            refine lv_goto (tgt := 4) hx hb dX8_isTurned_68 (by decide) ?_
            exact ih (1 : Int32) v6 ls (lv_sub hl [2, 3, 1, 0] rfl) _ h K0
  refine lv_iconst (v := (1 : Int32)) hx hb dX8_isTurned_0 (by decide) ?_
  refine lv_istore_n (lv' := [(2, .int (1 : Int32)), (0, .ref (a0 0)), (1, .int x1)]) hx hb dX8_isTurned_1 rfl hl (by decide) rfl (fun ls hl => ?_)
  refine lv_iconst (v := (0 : Int32)) hx hb dX8_isTurned_2 (by decide) ?_
  refine lv_istore_n (lv' := [(3, .int (0 : Int32)), (2, .int (1 : Int32)), (0, .ref (a0 0)), (1, .int x1)]) hx hb dX8_isTurned_3 rfl hl (by decide) rfl (fun ls hl => ?_)
  obtain ⟨z1, hz1, h⟩ := bd_some h
  refine LP4 x1 512 (1 : Int32) (0 : Int32) ls (lv_sub hl [2, 3, 1, 0] rfl) _ hz1 ?_
  · intro ls hl
    refine lv_iload_n hx hb dX8_isTurned_71 rfl (lv_at hl 0 rfl) ?_
    obtain ⟨hz9, h⟩ := gd_some h
    cases h
    exact hend _ _ (ckz_n hz9) dX8_isTurned_72
abbrev rmX8_alike : Room := ({ frames := 2, cells := 0, slots := 0, locals := 45 } : Room)
set_option maxHeartbeats 4000000 in
set_option maxRecDepth 100000 in
theorem c_X8_alike (l : Launch) (D : va_G) (cA : ClassId) (a0 : (Nat → Nat)) (o0 : Ob) (r : Int32) (o0_ : Ob) (h : f_X8_alike o0 = some (r, o0_)) : ConW l yX8_alike wsX8_alike rmX8_alike D cA [.ref (a0 0)] (wX8 cA a0 o0) r (wX8 cA a0 o0_) := by
  refine ConW.enter (cc := cX8_alike) (maxL := 3) (by decide) rfl (Nat.le_of_ble_eq_true rfl) ?_
  intro p e s m args below meth c Q A hx hb hml hown hts hK hP hD hA hend ls hl
  have hS : va_S A s.heap s.heap [] := va_S.rf
  have hl : lv_has ls 3 [(0, .ref (a0 0))] := hl
  unfold f_X8_alike at h
  have lkf73 := hts (.fieldLink RX8 73 "TiedToTownModel" "left" "[I") (List.mem_of_getElem? (i := 1) rfl)
  have hinX8 : ∀ w ∈ wsX80, w ∈ wsX8_alike := fun w h => List.mem_cons_of_mem _ (List.mem_append_right _ h)
  have LP77 : ∀ (o0 : Ob) (n : Nat) (x1 : Int32) (x2 : Int32) (H : Heap) (locs : List Loc) (_ : va_P D vwCl (wX8 cA a0 o0) H) (_ : va_D A (wX8 cA a0 o0)) (_ : va_S A s.heap H locs) (ls : Array Slot) (_ : lv_has ls 3 [(0, .ref (a0 0)), (1, .int x1), (2, .int x2)]) (res : Int32) (_ : L_X8_alike_77 o0 n x1 x2 = some res) (_ : (∀ (H : Heap) (locs : List Loc) (_ : va_P D vwCl (wX8 cA a0 o0) H) (_ : va_D A (wX8 cA a0 o0)) (_ : va_S A s.heap H locs) (ls : Array Slot), lv_has ls 3 [(1, .int res)] → W p l e rmX8_alike s m args below meth c H locs 0 0 Q (F0 m 126 ls []))), W p l e rmX8_alike s m args below meth c H locs 0 0 Q (F0 m 77 ls []) := by
    intro o0 n
    induction n with
    | zero =>
      intro x1 x2 H locs hP hD hS ls hl res h K0
      exact absurd h (fun q : (none : Option (Int32)) = some res => by cases q)
    | succ n ih =>
      intro x1 x2 H locs hP hD hS ls hl res h K0
      have h : L_X8_alike_77_step o0 (L_X8_alike_77 o0 n) x1 x2 = some res := h
      unfold L_X8_alike_77_step at h
      refine lv_iload_n hx hb dX8_alike_77 rfl (lv_at hl 2 rfl) ?_
      refine lv_aload_n hx hb dX8_alike_78 rfl (lv_at hl 0 rfl) ?_
      refine va_get (D := D) (ci := 8) (v := .ref (a0 27)) (C := RX8) (T := TX8) (N := 27) hx hb hts hinX8 hown hK.1 hP 0 rfl rfl 26 (by decide) lkf73 (fun _ h9 => h9) rfl dX8_alike_79 ?_
      refine lv_iconst (v := (0 : Int32)) hx hb dX8_alike_82 (by decide) ?_
      refine iald (q0 := 0) (t0 := 0) (j := 0) hx hb hK hP 22 rfl rfl (vp_in_iff.mpr (by decide)) dX8_alike_83 ?_
      refine lv_icmp_ge (tgt := 126) hx hb dX8_alike_84 (by decide) (fun hc => ?_) (fun hc => ?_)
      · have h := if_t hc h
        cases h
        exact K0 _ _ hP hD hS _ (lv_sub hl [1] rfl)
      · have h := if_f hc h
        refine lv_iload_n hx hb dX8_alike_87 rfl (lv_at hl 1 rfl) ?_
        refine lv_if_ne (tgt := 114) hx hb dX8_alike_88 (by decide) (fun hc => ?_) (fun hc => ?_)
        · have h := if_f hc h
          refine lv_iconst (v := (1 : Int32)) hx hb dX8_alike_114 (by decide) ?_
          refine lv_goto (tgt := 119) hx hb dX8_alike_115 (by decide) ?_
          refine lv_istore_n (lv' := [(1, .int (1 : Int32)), (0, .ref (a0 0)), (2, .int x2)]) hx hb dX8_alike_119 rfl hl (by decide) rfl (fun ls hl => ?_)
          obtain ⟨v1, ev1⟩ : ∃ y : Int32, y = x2 + (1 : Int32) := ⟨_, rfl⟩
          refine lv_iinc (v := v1) (lv' := [(2, .int v1), (1, .int (1 : Int32)), (0, .ref (a0 0))]) hx hb dX8_alike_120 hl (k := 2) rfl (by rw [ev1]; rfl) (by decide) rfl (fun ls hl => ?_)
          have h := nm_ap ev1 h
          refine lv_goto (tgt := 77) hx hb dX8_alike_123 (by decide) ?_
          exact ih (1 : Int32) v1 _ _ hP hD hS ls (lv_sub hl [2, 1, 0] rfl) _ h K0
        · have h := if_t hc h
          refine lv_aload_n hx hb dX8_alike_91 rfl (lv_at hl 0 rfl) ?_
          refine va_get (D := D) (ci := 8) (v := .ref (a0 27)) (C := RX8) (T := TX8) (N := 27) hx hb hts hinX8 hown hK.1 hP 0 rfl rfl 26 (by decide) lkf73 (fun _ h9 => h9) rfl dX8_alike_92 ?_
          refine lv_iconst (v := (0 : Int32)) hx hb dX8_alike_95 (by decide) ?_
          refine iald (q0 := 0) (t0 := 0) (j := 0) hx hb hK hP 22 rfl rfl (vp_in_iff.mpr (by decide)) dX8_alike_96 ?_
          refine lv_aload_n hx hb dX8_alike_97 rfl (lv_at hl 0 rfl) ?_
          refine va_get (D := D) (ci := 8) (v := .ref (a0 27)) (C := RX8) (T := TX8) (N := 27) hx hb hts hinX8 hown hK.1 hP 0 rfl rfl 26 (by decide) lkf73 (fun _ h9 => h9) rfl dX8_alike_98 ?_
          refine lv_iconst (v := (1 : Int32)) hx hb dX8_alike_101 (by decide) ?_
          refine iald (q0 := 0) (t0 := 0) (j := 1) hx hb hK hP 22 rfl rfl (vp_in_iff.mpr (by decide)) dX8_alike_102 ?_
          refine lv_icmp_ne (tgt := 118) hx hb dX8_alike_103 (by decide) (fun hc => ?_) (fun hc => ?_)
          · have h := if_f hc h
            refine lv_iconst (v := (0 : Int32)) hx hb dX8_alike_118 (by decide) ?_
            refine lv_istore_n (lv' := [(1, .int (0 : Int32)), (0, .ref (a0 0)), (2, .int x2)]) hx hb dX8_alike_119 rfl hl (by decide) rfl (fun ls hl => ?_)
            obtain ⟨v2, ev2⟩ : ∃ y : Int32, y = x2 + (1 : Int32) := ⟨_, rfl⟩
            refine lv_iinc (v := v2) (lv' := [(2, .int v2), (1, .int (0 : Int32)), (0, .ref (a0 0))]) hx hb dX8_alike_120 hl (k := 2) rfl (by rw [ev2]; rfl) (by decide) rfl (fun ls hl => ?_)
            have h := nm_ap ev2 h
            refine lv_goto (tgt := 77) hx hb dX8_alike_123 (by decide) ?_
            exact ih (0 : Int32) v2 _ _ hP hD hS ls (lv_sub hl [2, 1, 0] rfl) _ h K0
          · have h := if_t hc h
            refine lv_aload_n hx hb dX8_alike_106 rfl (lv_at hl 0 rfl) ?_
            refine lv_iload_n hx hb dX8_alike_107 rfl (lv_at hl 2 rfl) ?_
            obtain ⟨z3, hz3, h⟩ := bd_some h
            refine cR_V (As := [.int x2]) (rest := []) ⟨hx, hb, hml, hown, hts⟩ (c_X8_isTurned l D cA a0 o0 x2 z3 hz3) (cwV 1 hts gX8_alike_X8_isTurned rfl rfl rfl hd_X8_isTurned ⟨(Nat.le_of_ble_eq_true rfl), (Nat.le_of_ble_eq_true rfl)⟩) (recvK hK hP 0 8 rfl rfl) hK hP [0, 1, 2, 3, 4, 5, 6, 7, 8, 9, 10, 11, 12, 13, 14, 15, 16, 17, 18, 19, 20, 21, 22] rfl rfl hl.1 rfl (Nat.le_of_ble_eq_true rfl) dX8_alike_108 ⟨(Nat.le_of_ble_eq_true rfl), (Nat.le_of_ble_eq_true rfl)⟩ ?_
            refine lv_if_eq (tgt := 118) hx hb dX8_alike_111 (by decide) (fun hc => ?_) (fun hc => ?_)
            · have h := if_t hc h
              refine lv_iconst (v := (0 : Int32)) hx hb dX8_alike_118 (by decide) ?_
              refine lv_istore_n (lv' := [(1, .int (0 : Int32)), (0, .ref (a0 0)), (2, .int x2)]) hx hb dX8_alike_119 rfl hl (by decide) rfl (fun ls hl => ?_)
              obtain ⟨v4, ev4⟩ : ∃ y : Int32, y = x2 + (1 : Int32) := ⟨_, rfl⟩
              refine lv_iinc (v := v4) (lv' := [(2, .int v4), (1, .int (0 : Int32)), (0, .ref (a0 0))]) hx hb dX8_alike_120 hl (k := 2) rfl (by rw [ev4]; rfl) (by decide) rfl (fun ls hl => ?_)
              have h := nm_ap ev4 h
              refine lv_goto (tgt := 77) hx hb dX8_alike_123 (by decide) ?_
              exact ih (0 : Int32) v4 _ _ hP hD hS ls (lv_sub hl [2, 1, 0] rfl) _ h K0
            · have h := if_f hc h
              refine lv_iconst (v := (1 : Int32)) hx hb dX8_alike_114 (by decide) ?_
              refine lv_goto (tgt := 119) hx hb dX8_alike_115 (by decide) ?_
              refine lv_istore_n (lv' := [(1, .int (1 : Int32)), (0, .ref (a0 0)), (2, .int x2)]) hx hb dX8_alike_119 rfl hl (by decide) rfl (fun ls hl => ?_)
              obtain ⟨v5, ev5⟩ : ∃ y : Int32, y = x2 + (1 : Int32) := ⟨_, rfl⟩
              refine lv_iinc (v := v5) (lv' := [(2, .int v5), (1, .int (1 : Int32)), (0, .ref (a0 0))]) hx hb dX8_alike_120 hl (k := 2) rfl (by rw [ev5]; rfl) (by decide) rfl (fun ls hl => ?_)
              have h := nm_ap ev5 h
              refine lv_goto (tgt := 77) hx hb dX8_alike_123 (by decide) ?_
              exact ih (1 : Int32) v5 _ _ hP hD hS ls (lv_sub hl [2, 1, 0] rfl) _ h K0
  have JP0_74 : ∀ (k0 : Int32) (o0 : Ob) (H : Heap) (locs : List Loc) (_ : va_P D vwCl (wX8 cA a0 o0) H) (_ : va_D A (wX8 cA a0 o0)) (_ : va_S A s.heap H locs) (ls : Array Slot) (_ : lv_has ls 3 [(0, .ref (a0 0))]) (_ : J_X8_alike_74 k0 o0 = some (r, o0_)), W p l e rmX8_alike s m args below meth c H locs 0 0 Q (F0 m 74 ls [.int k0]) := by
    intro k0 o0 H locs hP hD hS ls hl h
    unfold J_X8_alike_74 at h
    refine lv_istore_n (lv' := [(1, .int k0), (0, .ref (a0 0))]) hx hb dX8_alike_74 rfl hl (by decide) rfl (fun ls hl => ?_)
    refine lv_iconst (v := (0 : Int32)) hx hb dX8_alike_75 (by decide) ?_
    refine lv_istore_n (lv' := [(2, .int (0 : Int32)), (1, .int k0), (0, .ref (a0 0))]) hx hb dX8_alike_76 rfl hl (by decide) rfl (fun ls hl => ?_)
    obtain ⟨z1, hz1, h⟩ := bd_some h
    refine LP77 o0 512 k0 (0 : Int32) _ _ hP hD hS ls (lv_sub hl [2, 1, 0] rfl) _ hz1 ?_
    · intro H locs hP hD hS ls hl
      refine lv_iload_n hx hb dX8_alike_126 rfl (lv_at hl 0 rfl) ?_
      refine lv_if_eq (tgt := 134) hx hb dX8_alike_127 (by decide) (fun hc => ?_) (fun hc => ?_)
      · have h := if_t hc h
        refine lv_iconst (v := (0 : Int32)) hx hb dX8_alike_134 (by decide) ?_
        cases h
        exact hend _ _ _ _ hP hD hS dX8_alike_135
      · have h := if_f hc h
        refine lv_iconst (v := (1 : Int32)) hx hb dX8_alike_130 (by decide) ?_
        refine lv_goto (tgt := 135) hx hb dX8_alike_131 (by decide) ?_
        cases h
        exact hend _ _ _ _ hP hD hS dX8_alike_135
  have JP0_73 : ∀ (o0 : Ob) (H : Heap) (locs : List Loc) (_ : va_P D vwCl (wX8 cA a0 o0) H) (_ : va_D A (wX8 cA a0 o0)) (_ : va_S A s.heap H locs) (ls : Array Slot) (_ : lv_has ls 3 [(0, .ref (a0 0))]) (_ : J_X8_alike_73 o0 = some (r, o0_)), W p l e rmX8_alike s m args below meth c H locs 0 0 Q (F0 m 73 ls []) := by
    intro o0 H locs hP hD hS ls hl h
    unfold J_X8_alike_73 at h
    refine lv_iconst (v := (0 : Int32)) hx hb dX8_alike_73 (by decide) ?_
    exact JP0_74 (0 : Int32) o0 _ _ hP hD hS ls (lv_sub hl [0] rfl) h
  have JP0_35 : ∀ (o0 : Ob) (H : Heap) (locs : List Loc) (_ : va_P D vwCl (wX8 cA a0 o0) H) (_ : va_D A (wX8 cA a0 o0)) (_ : va_S A s.heap H locs) (ls : Array Slot) (_ : lv_has ls 3 [(0, .ref (a0 0))]) (_ : J_X8_alike_35 o0 = some (r, o0_)), W p l e rmX8_alike s m args below meth c H locs 0 0 Q (F0 m 35 ls []) := by
    intro o0 H locs hP hD hS ls hl h
    unfold J_X8_alike_35 at h
    refine lv_aload_n hx hb dX8_alike_35 rfl (lv_at hl 0 rfl) ?_
    refine lv_iconst (v := (0 : Int32)) hx hb dX8_alike_36 (by decide) ?_
    obtain ⟨z1, hz1, h⟩ := bd_some h
    refine cV_V (As := [.int (0 : Int32)]) (rest := []) (wn := (wX8 cA a0 z1)) ⟨hx, hb, hml, hown, hts⟩ (c_X8_layRound l D cA a0 o0 (0 : Int32)  z1 hz1) (cwV 1 hts gX8_alike_X8_layRound rfl rfl rfl hd_X8_layRound ⟨(Nat.le_of_ble_eq_true rfl), (Nat.le_of_ble_eq_true rfl)⟩) (recvK hK hP 0 8 rfl rfl) hK hP hD hS hA [0, 1, 2, 3, 4, 5, 6, 7, 8, 9, 10, 11, 12, 13, 14, 15, 16, 17, 18, 19, 20, 21, 22] [] [0, 1, 2, 3, 4, 5, 6, 7, 8, 9, 10, 11, 12, 13, 14, 15, 16, 17, 18, 19, 20, 21, 22] rfl rfl rfl rfl rfl rfl rfl rfl hl.1 rfl (Nat.le_of_ble_eq_true rfl) dX8_alike_37 ⟨(Nat.le_of_ble_eq_true rfl), (Nat.le_of_ble_eq_true rfl)⟩ (fun H locs hP hD hS => ?_)
    refine lv_aload_n hx hb dX8_alike_40 rfl (lv_at hl 0 rfl) ?_
    refine lv_iconst (v := (1 : Int32)) hx hb dX8_alike_41 (by decide) ?_
    obtain ⟨z2, hz2, h⟩ := bd_some h
    refine cV_V (As := [.int (1 : Int32)]) (rest := []) (wn := (wX8 cA a0 z2)) ⟨hx, hb, hml, hown, hts⟩ (c_X8_layRound l D cA a0 z1 (1 : Int32)  z2 hz2) (cwV 1 hts gX8_alike_X8_layRound rfl rfl rfl hd_X8_layRound ⟨(Nat.le_of_ble_eq_true rfl), (Nat.le_of_ble_eq_true rfl)⟩) (recvK hK hP 0 8 rfl rfl) hK hP hD hS hA [0, 1, 2, 3, 4, 5, 6, 7, 8, 9, 10, 11, 12, 13, 14, 15, 16, 17, 18, 19, 20, 21, 22] [] [0, 1, 2, 3, 4, 5, 6, 7, 8, 9, 10, 11, 12, 13, 14, 15, 16, 17, 18, 19, 20, 21, 22] rfl rfl rfl rfl rfl rfl rfl rfl hl.1 rfl (Nat.le_of_ble_eq_true rfl) dX8_alike_42 ⟨(Nat.le_of_ble_eq_true rfl), (Nat.le_of_ble_eq_true rfl)⟩ (fun H locs hP hD hS => ?_)
    refine lv_aload_n hx hb dX8_alike_45 rfl (lv_at hl 0 rfl) ?_
    refine va_get (D := D) (ci := 8) (v := .ref (a0 27)) (C := RX8) (T := TX8) (N := 27) hx hb hts hinX8 hown hK.1 hP 0 rfl rfl 26 (by decide) lkf73 (fun _ h9 => h9) rfl dX8_alike_46 ?_
    refine lv_iconst (v := (0 : Int32)) hx hb dX8_alike_49 (by decide) ?_
    refine iald (q0 := 0) (t0 := 0) (j := 0) hx hb hK hP 22 rfl rfl (vp_in_iff.mpr (by decide)) dX8_alike_50 ?_
    refine lv_aload_n hx hb dX8_alike_51 rfl (lv_at hl 0 rfl) ?_
    refine va_get (D := D) (ci := 8) (v := .ref (a0 27)) (C := RX8) (T := TX8) (N := 27) hx hb hts hinX8 hown hK.1 hP 0 rfl rfl 26 (by decide) lkf73 (fun _ h9 => h9) rfl dX8_alike_52 ?_
    refine lv_iconst (v := (1 : Int32)) hx hb dX8_alike_55 (by decide) ?_
    refine iald (q0 := 0) (t0 := 0) (j := 1) hx hb hK hP 22 rfl rfl (vp_in_iff.mpr (by decide)) dX8_alike_56 ?_
    refine lv_icmp_ne (tgt := 73) hx hb dX8_alike_57 (by decide) (fun hc => ?_) (fun hc => ?_)
    · have h := if_f hc h
      exact JP0_73 z2 _ _ hP hD hS ls (lv_sub hl [0] rfl) h
    · have h := if_t hc h
      refine lv_aload_n hx hb dX8_alike_60 rfl (lv_at hl 0 rfl) ?_
      refine va_get (D := D) (ci := 8) (v := .ref (a0 27)) (C := RX8) (T := TX8) (N := 27) hx hb hts hinX8 hown hK.1 hP 0 rfl rfl 26 (by decide) lkf73 (fun _ h9 => h9) rfl dX8_alike_61 ?_
      refine lv_iconst (v := (0 : Int32)) hx hb dX8_alike_64 (by decide) ?_
      refine iald (q0 := 0) (t0 := 0) (j := 0) hx hb hK hP 22 rfl rfl (vp_in_iff.mpr (by decide)) dX8_alike_65 ?_
      refine lv_if_ne (tgt := 73) hx hb dX8_alike_66 (by decide) (fun hc => ?_) (fun hc => ?_)
      · have h := if_f hc h
        exact JP0_73 z2 _ _ hP hD hS ls (lv_sub hl [0] rfl) h
      · have h := if_t hc h
        refine lv_iconst (v := (1 : Int32)) hx hb dX8_alike_69 (by decide) ?_
        refine lv_goto (tgt := 74) hx hb dX8_alike_70 (by decide) ?_
        exact JP0_74 (1 : Int32) z2 _ _ hP hD hS ls (lv_sub hl [0] rfl) h
  refine lv_aload_n hx hb dX8_alike_0 rfl (lv_at hl 0 rfl) ?_
  refine lv_iconst (v := (0 : Int32)) hx hb dX8_alike_1 (by decide) ?_
  obtain ⟨z1, hz1, h⟩ := bd_some h
  refine cV_V (As := [.int (0 : Int32)]) (rest := []) (wn := (wX8 cA a0 z1)) ⟨hx, hb, hml, hown, hts⟩ (c_X8_layLoose l D cA a0 o0 (0 : Int32)  z1 hz1) (cwV 1 hts gX8_alike_X8_layLoose rfl rfl rfl hd_X8_layLoose ⟨(Nat.le_of_ble_eq_true rfl), (Nat.le_of_ble_eq_true rfl)⟩) (recvK hK hP 0 8 rfl rfl) hK hP hD hS hA [0, 1, 2, 3, 4, 5, 6, 7, 8, 9, 10, 11, 12, 13, 14, 15, 16, 17, 18, 19, 20, 21, 22] [] [0, 1, 2, 3, 4, 5, 6, 7, 8, 9, 10, 11, 12, 13, 14, 15, 16, 17, 18, 19, 20, 21, 22] rfl rfl rfl rfl rfl rfl rfl rfl hl.1 rfl (Nat.le_of_ble_eq_true rfl) dX8_alike_2 ⟨(Nat.le_of_ble_eq_true rfl), (Nat.le_of_ble_eq_true rfl)⟩ (fun H locs hP hD hS => ?_)
  refine lv_aload_n hx hb dX8_alike_5 rfl (lv_at hl 0 rfl) ?_
  refine lv_iconst (v := (1 : Int32)) hx hb dX8_alike_6 (by decide) ?_
  obtain ⟨z2, hz2, h⟩ := bd_some h
  refine cV_V (As := [.int (1 : Int32)]) (rest := []) (wn := (wX8 cA a0 z2)) ⟨hx, hb, hml, hown, hts⟩ (c_X8_layLoose l D cA a0 z1 (1 : Int32)  z2 hz2) (cwV 1 hts gX8_alike_X8_layLoose rfl rfl rfl hd_X8_layLoose ⟨(Nat.le_of_ble_eq_true rfl), (Nat.le_of_ble_eq_true rfl)⟩) (recvK hK hP 0 8 rfl rfl) hK hP hD hS hA [0, 1, 2, 3, 4, 5, 6, 7, 8, 9, 10, 11, 12, 13, 14, 15, 16, 17, 18, 19, 20, 21, 22] [] [0, 1, 2, 3, 4, 5, 6, 7, 8, 9, 10, 11, 12, 13, 14, 15, 16, 17, 18, 19, 20, 21, 22] rfl rfl rfl rfl rfl rfl rfl rfl hl.1 rfl (Nat.le_of_ble_eq_true rfl) dX8_alike_7 ⟨(Nat.le_of_ble_eq_true rfl), (Nat.le_of_ble_eq_true rfl)⟩ (fun H locs hP hD hS => ?_)
  refine lv_aload_n hx hb dX8_alike_10 rfl (lv_at hl 0 rfl) ?_
  refine va_get (D := D) (ci := 8) (v := .ref (a0 27)) (C := RX8) (T := TX8) (N := 27) hx hb hts hinX8 hown hK.1 hP 0 rfl rfl 26 (by decide) lkf73 (fun _ h9 => h9) rfl dX8_alike_11 ?_
  refine lv_iconst (v := (0 : Int32)) hx hb dX8_alike_14 (by decide) ?_
  refine iald (q0 := 0) (t0 := 0) (j := 0) hx hb hK hP 22 rfl rfl (vp_in_iff.mpr (by decide)) dX8_alike_15 ?_
  refine lv_aload_n hx hb dX8_alike_16 rfl (lv_at hl 0 rfl) ?_
  refine va_get (D := D) (ci := 8) (v := .ref (a0 27)) (C := RX8) (T := TX8) (N := 27) hx hb hts hinX8 hown hK.1 hP 0 rfl rfl 26 (by decide) lkf73 (fun _ h9 => h9) rfl dX8_alike_17 ?_
  refine lv_iconst (v := (1 : Int32)) hx hb dX8_alike_20 (by decide) ?_
  refine iald (q0 := 0) (t0 := 0) (j := 1) hx hb hK hP 22 rfl rfl (vp_in_iff.mpr (by decide)) dX8_alike_21 ?_
  refine lv_icmp_ne (tgt := 35) hx hb dX8_alike_22 (by decide) (fun hc => ?_) (fun hc => ?_)
  · have h := if_f hc h
    exact JP0_35 z2 _ _ hP hD hS ls (lv_sub hl [0] rfl) h
  · have h := if_t hc h
    refine lv_aload_n hx hb dX8_alike_25 rfl (lv_at hl 0 rfl) ?_
    refine lv_iconst (v := (0 : Int32)) hx hb dX8_alike_26 (by decide) ?_
    obtain ⟨z3, hz3, h⟩ := bd_some h
    refine cR_V (As := [.int (0 : Int32)]) (rest := []) ⟨hx, hb, hml, hown, hts⟩ (c_X8_isTurned l D cA a0 z2 (0 : Int32) z3 hz3) (cwV 1 hts gX8_alike_X8_isTurned rfl rfl rfl hd_X8_isTurned ⟨(Nat.le_of_ble_eq_true rfl), (Nat.le_of_ble_eq_true rfl)⟩) (recvK hK hP 0 8 rfl rfl) hK hP [0, 1, 2, 3, 4, 5, 6, 7, 8, 9, 10, 11, 12, 13, 14, 15, 16, 17, 18, 19, 20, 21, 22] rfl rfl hl.1 rfl (Nat.le_of_ble_eq_true rfl) dX8_alike_27 ⟨(Nat.le_of_ble_eq_true rfl), (Nat.le_of_ble_eq_true rfl)⟩ ?_
    refine lv_if_eq (tgt := 35) hx hb dX8_alike_30 (by decide) (fun hc => ?_) (fun hc => ?_)
    · have h := if_t hc h
      exact JP0_35 z2 _ _ hP hD hS ls (lv_sub hl [0] rfl) h
    · have h := if_f hc h
      refine lv_iconst (v := (2 : Int32)) hx hb dX8_alike_33 (by decide) ?_
      cases h
      exact hend _ _ _ _ hP hD hS dX8_alike_34
abbrev rmX8_mark : Room := ({ frames := 1, cells := 0, slots := 0, locals := 25 } : Room)
set_option maxHeartbeats 4000000 in
set_option maxRecDepth 100000 in
theorem c_X8_mark (l : Launch) (D : va_G) (cA : ClassId) (a0 : (Nat → Nat)) (o0 : Ob) (x1 : Int32) (x2 : Int32) (r : Int32) (h : f_X8_mark o0 x1 x2 = some r) : ConR l yX8_mark wsX8_mark rmX8_mark D cA [.ref (a0 0), .int x1, .int x2] (wX8 cA a0 o0) r := by
  refine ConR.enter (cc := cX8_mark) (maxL := 6) (by decide) rfl (Nat.le_of_ble_eq_true rfl) ?_
  intro p e s m args below meth c Q hx hb hml hown hts hK hP  hend ls hl
  have hl : lv_has ls 6 [(0, .ref (a0 0)), (1, .int x1), (2, .int x2)] := hl
  unfold f_X8_mark at h
  have lkc103 := hts (.constantLong RX8 103 (3)) (List.mem_of_getElem? (i := 1) rfl)
  have lkf52 := hts (.fieldLink RX8 52 "TiedToTownModel" "ropeMany" "[I") (List.mem_of_getElem? (i := 2) rfl)
  have hinX8 : ∀ w ∈ wsX80, w ∈ wsX8_mark := fun w h => List.mem_cons_of_mem _ (List.mem_append_right _ h)
  have lkf55 := hts (.fieldLink RX8 55 "TiedToTownModel" "ropes" "[I") (List.mem_of_getElem? (i := 3) rfl)
  have LP30 : ∀ (x1 : Int32) (x2 : Int32) (n : Nat) (x3 : Int32) (x4 : Int32) (ls : Array Slot) (_ : lv_has ls 6 [(0, .ref (a0 0)), (1, .int x1), (2, .int x2), (3, .int x3), (4, .int x4)]) (res : Int32) (_ : L_X8_mark_30 x1 x2 o0 n x3 x4 = some res) (_ : (∀ (ls : Array Slot), lv_has ls 6 [(3, .int res)] → W p l e rmX8_mark s m args below meth c s.heap [] 0 0 Q (F0 m 88 ls []))), W p l e rmX8_mark s m args below meth c s.heap [] 0 0 Q (F0 m 30 ls []) := by
    intro x1 x2 n
    induction n with
    | zero =>
      intro x3 x4 ls hl res h K0
      exact absurd h (fun q : (none : Option (Int32)) = some res => by cases q)
    | succ n ih =>
      intro x3 x4 ls hl res h K0
      have h : L_X8_mark_30_step x1 x2 o0 (L_X8_mark_30 x1 x2 o0 n) x3 x4 = some res := h
      unfold L_X8_mark_30_step at h
      refine lv_iload hx hb dX8_mark_30 (lv_at hl 4 rfl) ?_
      refine lv_aload_n hx hb dX8_mark_32 rfl (lv_at hl 0 rfl) ?_
      refine va_get (D := D) (ci := 8) (v := .ref (a0 19)) (C := RX8) (T := TX8) (N := 27) hx hb hts hinX8 hown hK.1 hP 0 rfl rfl 18 (by decide) lkf52 (fun _ h9 => h9) rfl dX8_mark_33 ?_
      refine lv_iload_n hx hb dX8_mark_36 rfl (lv_at hl 1 rfl) ?_
      obtain ⟨hi1, h⟩ := gd_some h
      refine iald (q0 := 0) (t0 := 0) (j := x1.toNatClampNeg) hx hb hK hP 15 rfl rfl (ck_in hi1) dX8_mark_37 ?_
      refine lv_icmp_ge (tgt := 88) hx hb dX8_mark_38 (by decide) (fun hc => ?_) (fun hc => ?_)
      · have h := if_t hc h
        cases h
        exact K0 _ (lv_sub hl [3] rfl)
      · have h := if_f hc h
        refine lv_aload_n hx hb dX8_mark_41 rfl (lv_at hl 0 rfl) ?_
        refine va_get (D := D) (ci := 8) (v := .ref (a0 20)) (C := RX8) (T := TX8) (N := 27) hx hb hts hinX8 hown hK.1 hP 0 rfl rfl 19 (by decide) lkf55 (fun _ h9 => h9) rfl dX8_mark_42 ?_
        refine lv_bipush (v := (16 : Int32)) hx hb dX8_mark_45 (by decide) ?_
        refine lv_iload_n hx hb dX8_mark_47 rfl (lv_at hl 1 rfl) ?_
        refine lv_imul hx hb dX8_mark_48 ?_
        refine lv_iload hx hb dX8_mark_49 (lv_at hl 4 rfl) ?_
        refine lv_iadd hx hb dX8_mark_51 ?_
        obtain ⟨hi2, h⟩ := gd_some h
        refine iald (q0 := 0) (t0 := 0) (j := (((16 : Int32) * x1) + x4).toNatClampNeg) hx hb hK hP 16 rfl rfl (ck_in hi2) dX8_mark_52 ?_
        refine lv_topi (fun v3 ev3 => ?_)
        have h := nm_ap ev3 h
        refine lv_istore (lv' := [(5, .int v3), (0, .ref (a0 0)), (1, .int x1), (2, .int x2), (3, .int x3), (4, .int x4)]) hx hb dX8_mark_53 hl (by decide) rfl (fun ls hl => ?_)
        refine lv_iload_n hx hb dX8_mark_55 rfl (lv_at hl 4 rfl) ?_
        refine lv_iload hx hb dX8_mark_56 (lv_at hl 0 rfl) ?_
        refine lv_iconst (v := (2 : Int32)) hx hb dX8_mark_58 (by decide) ?_
        refine lv_idiv hx hb dX8_mark_59 (by decide) ?_
        refine lv_iload_n hx hb dX8_mark_60 rfl (lv_at hl 3 rfl) ?_
        refine lv_icmp_eq (tgt := 68) hx hb dX8_mark_61 (by decide) (fun hc => ?_) (fun hc => ?_)
        · have h := if_t hc h
          refine lv_iload hx hb dX8_mark_68 (lv_at hl 0 rfl) ?_
          refine lv_iconst (v := (2 : Int32)) hx hb dX8_mark_70 (by decide) ?_
          refine lv_irem hx hb dX8_mark_71 (by decide) ?_
          refine lv_if_ne (tgt := 79) hx hb dX8_mark_72 (by decide) (fun hc => ?_) (fun hc => ?_)
          · have h := if_f hc h
            refine lv_iconst (v := (-1 : Int32)) hx hb dX8_mark_79 (by decide) ?_
            refine lv_iadd hx hb dX8_mark_80 ?_
            refine lv_topi (fun v4 ev4 => ?_)
            have h := nm_ap ev4 h
            refine lv_istore_n (lv' := [(3, .int v4), (5, .int v3), (0, .ref (a0 0)), (1, .int x1), (2, .int x2), (4, .int x4)]) hx hb dX8_mark_81 rfl hl (by decide) rfl (fun ls hl => ?_)
            obtain ⟨v5, ev5⟩ : ∃ y : Int32, y = x4 + (1 : Int32) := ⟨_, rfl⟩
            refine lv_iinc (v := v5) (lv' := [(4, .int v5), (3, .int v4), (5, .int v3), (0, .ref (a0 0)), (1, .int x1), (2, .int x2)]) hx hb dX8_mark_82 hl (k := 5) rfl (by rw [ev5]; rfl) (by decide) rfl (fun ls hl => ?_)
            have h := nm_ap ev5 h
            refine lv_goto (tgt := 30) hx hb dX8_mark_85 (by decide) ?_
            exact ih v4 v5 ls (lv_sub hl [3, 4, 5, 1, 0] rfl) _ h K0
          · have h := if_t hc h
            refine lv_iconst (v := (1 : Int32)) hx hb dX8_mark_75 (by decide) ?_
            refine lv_goto (tgt := 80) hx hb dX8_mark_76 (by decide) ?_
            refine lv_iadd hx hb dX8_mark_80 ?_
            refine lv_topi (fun v6 ev6 => ?_)
            have h := nm_ap ev6 h
            refine lv_istore_n (lv' := [(3, .int v6), (5, .int v3), (0, .ref (a0 0)), (1, .int x1), (2, .int x2), (4, .int x4)]) hx hb dX8_mark_81 rfl hl (by decide) rfl (fun ls hl => ?_)
            obtain ⟨v7, ev7⟩ : ∃ y : Int32, y = x4 + (1 : Int32) := ⟨_, rfl⟩
            refine lv_iinc (v := v7) (lv' := [(4, .int v7), (3, .int v6), (5, .int v3), (0, .ref (a0 0)), (1, .int x1), (2, .int x2)]) hx hb dX8_mark_82 hl (k := 5) rfl (by rw [ev7]; rfl) (by decide) rfl (fun ls hl => ?_)
            have h := nm_ap ev7 h
            refine lv_goto (tgt := 30) hx hb dX8_mark_85 (by decide) ?_
            exact ih v6 v7 ls (lv_sub hl [3, 4, 5, 1, 0] rfl) _ h K0
        · have h := if_f hc h
          refine lv_iconst (v := (0 : Int32)) hx hb dX8_mark_64 (by decide) ?_
          refine lv_goto (tgt := 80) hx hb dX8_mark_65 (by decide) ?_
          refine lv_iadd hx hb dX8_mark_80 ?_
          refine lv_topi (fun v8 ev8 => ?_)
          have h := nm_ap ev8 h
          refine lv_istore_n (lv' := [(3, .int v8), (5, .int v3), (0, .ref (a0 0)), (1, .int x1), (2, .int x2), (4, .int x4)]) hx hb dX8_mark_81 rfl hl (by decide) rfl (fun ls hl => ?_)
          obtain ⟨v9, ev9⟩ : ∃ y : Int32, y = x4 + (1 : Int32) := ⟨_, rfl⟩
          refine lv_iinc (v := v9) (lv' := [(4, .int v9), (3, .int v8), (5, .int v3), (0, .ref (a0 0)), (1, .int x1), (2, .int x2)]) hx hb dX8_mark_82 hl (k := 5) rfl (by rw [ev9]; rfl) (by decide) rfl (fun ls hl => ?_)
          have h := nm_ap ev9 h
          refine lv_goto (tgt := 30) hx hb dX8_mark_85 (by decide) ?_
          exact ih v8 v9 ls (lv_sub hl [3, 4, 5, 1, 0] rfl) _ h K0
  refine lv_iload_n hx hb dX8_mark_0 rfl (lv_at hl 1 rfl) ?_
  refine lv_i2l hx hb dX8_mark_1 rfl ?_
  refine lv_lconst (v := (0 : Int64)) hx hb dX8_mark_2 (by decide) ?_
  refine lv_lconst (v := (1 : Int64)) hx hb dX8_mark_3 (by decide) ?_
  obtain ⟨z1, hz1, h⟩ := bd_some h
  refine cR_S (As := [.long x1.toInt64, .long (0 : Int64), .long (1 : Int64)]) (rest := []) ⟨hx, hb, hml, hown, hts⟩ (c_X8_in l D cA  x1.toInt64 (0 : Int64) (1 : Int64) z1 hz1) (va_cwS 3 hts gX8_mark_X8_in rfl rfl rfl hd_X8_in.2 ⟨(Nat.le_of_ble_eq_true rfl), (Nat.le_of_ble_eq_true rfl)⟩) hK hP [] rfl rfl hl.1 rfl (Nat.le_of_ble_eq_true rfl) dX8_mark_4 ⟨(Nat.le_of_ble_eq_true rfl), (Nat.le_of_ble_eq_true rfl)⟩ ?_
  refine lv_if_eq (tgt := 22) hx hb dX8_mark_7 (by decide) (fun hc => ?_) (fun hc => ?_)
  · have h := if_t hc h
    refine lv_iconst (v := (-1 : Int32)) hx hb dX8_mark_22 (by decide) ?_
    cases h
    exact hend _ _ dX8_mark_23
  · have h := if_f hc h
    refine lv_iload_n hx hb dX8_mark_10 rfl (lv_at hl 2 rfl) ?_
    refine lv_i2l hx hb dX8_mark_11 rfl ?_
    refine lv_lconst (v := (0 : Int64)) hx hb dX8_mark_12 (by decide) ?_
    refine lv_ldc2 hx hb hown lkc103 dX8_mark_13 ?_
    obtain ⟨z2, hz2, h⟩ := bd_some h
    refine cR_S (As := [.long x2.toInt64, .long (0 : Int64), .long (3 : Int64)]) (rest := []) ⟨hx, hb, hml, hown, hts⟩ (c_X8_in l D cA  x2.toInt64 (0 : Int64) (3 : Int64) z2 hz2) (va_cwS 3 hts gX8_mark_X8_in rfl rfl rfl hd_X8_in.2 ⟨(Nat.le_of_ble_eq_true rfl), (Nat.le_of_ble_eq_true rfl)⟩) hK hP [] rfl rfl hl.1 rfl (Nat.le_of_ble_eq_true rfl) dX8_mark_16 ⟨(Nat.le_of_ble_eq_true rfl), (Nat.le_of_ble_eq_true rfl)⟩ ?_
    refine lv_if_ne (tgt := 24) hx hb dX8_mark_19 (by decide) (fun hc => ?_) (fun hc => ?_)
    · have h := if_f hc h
      refine lv_bipush (v := (100 : Int32)) hx hb dX8_mark_24 (by decide) ?_
      refine lv_istore_n (lv' := [(3, .int (100 : Int32)), (0, .ref (a0 0)), (1, .int x1), (2, .int x2)]) hx hb dX8_mark_26 rfl hl (by decide) rfl (fun ls hl => ?_)
      refine lv_iconst (v := (0 : Int32)) hx hb dX8_mark_27 (by decide) ?_
      refine lv_istore (lv' := [(4, .int (0 : Int32)), (3, .int (100 : Int32)), (0, .ref (a0 0)), (1, .int x1), (2, .int x2)]) hx hb dX8_mark_28 hl (by decide) rfl (fun ls hl => ?_)
      obtain ⟨z3, hz3, h⟩ := bd_some h
      refine LP30 x1 x2 512 (100 : Int32) (0 : Int32) ls (lv_sub hl [2, 3, 4, 1, 0] rfl) _ hz3 ?_
      · intro ls hl
        refine lv_iload_n hx hb dX8_mark_88 rfl (lv_at hl 0 rfl) ?_
        cases h
        exact hend _ _ dX8_mark_89
    · have h := if_t hc h
      refine lv_iconst (v := (-1 : Int32)) hx hb dX8_mark_22 (by decide) ?_
      cases h
      exact hend _ _ dX8_mark_23
abbrev rmX8_year : Room := ({ frames := 3, cells := 0, slots := 0, locals := 72 } : Room)
set_option maxHeartbeats 4000000 in
set_option maxRecDepth 100000 in
theorem c_X8_year (l : Launch) (D : va_G) (cA : ClassId) (a0 : (Nat → Nat)) (o0 : Ob) (x1 : Int32) (x2 : Int32) (x3 : Int32) (r : Int32) (h : f_X8_year o0 x1 x2 x3 = some r) : ConR l yX8_year wsX8_year rmX8_year D cA [.ref (a0 0), .int x1, .int x2, .int x3] (wX8 cA a0 o0) r := by
  refine ConR.enter (cc := cX8_year) (maxL := 12) (by decide) rfl (Nat.le_of_ble_eq_true rfl) ?_
  intro p e s m args below meth c Q hx hb hml hown hts hK hP  hend ls hl
  have hl : lv_has ls 12 [(0, .ref (a0 0)), (1, .int x1), (2, .int x2), (3, .int x3)] := hl
  unfold f_X8_year at h
  have lkc199 := hts (.constantLong RX8 199 (9999)) (List.mem_of_getElem? (i := 1) rfl)
  have lkc201 := hts (.constantLong RX8 201 (60)) (List.mem_of_getElem? (i := 2) rfl)
  have lkf40 := hts (.fieldLink RX8 40 "TiedToTownModel" "tied" "[I") (List.mem_of_getElem? (i := 3) rfl)
  have hinX8 : ∀ w ∈ wsX80, w ∈ wsX8_year := fun w h => List.mem_cons_of_mem _ (List.mem_append_right _ h)
  have lkc203 := hts (.constantLong RX8 203 (7919)) (List.mem_of_getElem? (i := 4) rfl)
  have lkc205 := hts (.constantLong RX8 205 (6151)) (List.mem_of_getElem? (i := 5) rfl)
  have lkc207 := hts (.constantLong RX8 207 (65521)) (List.mem_of_getElem? (i := 6) rfl)
  have lkf22 := hts (.fieldLink RX8 22 "TiedToTownModel" "many" "[I") (List.mem_of_getElem? (i := 7) rfl)
  have lkf16 := hts (.fieldLink RX8 16 "TiedToTownModel" "alive" "[I") (List.mem_of_getElem? (i := 8) rfl)
  have lkf25 := hts (.fieldLink RX8 25 "TiedToTownModel" "ones" "[I") (List.mem_of_getElem? (i := 9) rfl)
  have lkf43 := hts (.fieldLink RX8 43 "TiedToTownModel" "day" "[I") (List.mem_of_getElem? (i := 12) rfl)
  have lkf28 := hts (.fieldLink RX8 28 "TiedToTownModel" "others" "[I") (List.mem_of_getElem? (i := 10) rfl)
  have lkf31 := hts (.fieldLink RX8 31 "TiedToTownModel" "through" "[I") (List.mem_of_getElem? (i := 11) rfl)
  have LP50 : ∀ (x1 : Int32) (x2 : Int32) (x3 : Int32) (n : Nat) (x4 : Int32) (x5 : Int32) (x6 : Int32) (ls : Array Slot) (_ : lv_has ls 12 [(0, .ref (a0 0)), (1, .int x1), (2, .int x2), (3, .int x3), (4, .int x4), (5, .int x5), (6, .int x6)]) (res : Int32 × Int32) (_ : L_X8_year_50 x1 x2 x3 o0 n x4 x5 x6 = some res) (_ : (∀ (ls : Array Slot), lv_has ls 12 [(3, .int x3), (4, .int res.1), (5, .int res.2)] → W p l e rmX8_year s m args below meth c s.heap [] 0 0 Q (F0 m 230 ls []))), W p l e rmX8_year s m args below meth c s.heap [] 0 0 Q (F0 m 50 ls []) := by
    intro x1 x2 x3 n
    induction n with
    | zero =>
      intro x4 x5 x6 ls hl res h K0
      exact absurd h (fun q : (none : Option (Int32 × Int32)) = some res => by cases q)
    | succ n ih =>
      intro x4 x5 x6 ls hl res h K0
      have h : L_X8_year_50_step x1 x2 x3 o0 (L_X8_year_50 x1 x2 x3 o0 n) x4 x5 x6 = some res := h
      unfold L_X8_year_50_step at h
      have JP50_206 : ∀ (k0 : Int32) (k1 : Int32) (x5 : Int32) (x6 : Int32) (x11 : Int32) (ls : Array Slot) (_ : lv_has ls 12 [(0, .ref (a0 0)), (1, .int x1), (2, .int x2), (3, .int x3), (5, .int x5), (6, .int x6), (11, .int x11)]) (_ : J_X8_year_206l50 (L_X8_year_50 x1 x2 x3 o0 n) k0 k1 x1 x2 x3 x5 x6 x11 o0 = some res), W p l e rmX8_year s m args below meth c s.heap [] 0 0 Q (F0 m 206 ls [.int k1, .int k0]) := by
        intro k0 k1 x5 x6 x11 ls hl h
        unfold J_X8_year_206l50 at h
        refine lv_ixor hx hb dX8_year_206 ?_
        refine lv_topi (fun v1 ev1 => ?_)
        have h := nm_ap ev1 h
        refine lv_istore (lv' := [(4, .int v1), (0, .ref (a0 0)), (1, .int x1), (2, .int x2), (3, .int x3), (5, .int x5), (6, .int x6), (11, .int x11)]) hx hb dX8_year_207 hl (by decide) rfl (fun ls hl => ?_)
        refine lv_iload hx hb dX8_year_209 (lv_at hl 5 rfl) ?_
        refine lv_iload hx hb dX8_year_211 (lv_at hl 7 rfl) ?_
        refine lv_if_eq (tgt := 220) hx hb dX8_year_213 (by decide) (fun hc => ?_) (fun hc => ?_)
        · have h := if_t hc h
          refine lv_iconst (v := (0 : Int32)) hx hb dX8_year_220 (by decide) ?_
          refine lv_iadd hx hb dX8_year_221 ?_
          refine lv_topi (fun v2 ev2 => ?_)
          have h := nm_ap ev2 h
          refine lv_istore (lv' := [(5, .int v2), (4, .int v1), (0, .ref (a0 0)), (1, .int x1), (2, .int x2), (3, .int x3), (6, .int x6), (11, .int x11)]) hx hb dX8_year_222 hl (by decide) rfl (fun ls hl => ?_)
          obtain ⟨v3, ev3⟩ : ∃ y : Int32, y = x6 + (1 : Int32) := ⟨_, rfl⟩
          refine lv_iinc (v := v3) (lv' := [(6, .int v3), (5, .int v2), (4, .int v1), (0, .ref (a0 0)), (1, .int x1), (2, .int x2), (3, .int x3), (11, .int x11)]) hx hb dX8_year_224 hl (k := 6) rfl (by rw [ev3]; rfl) (by decide) rfl (fun ls hl => ?_)
          have h := nm_ap ev3 h
          refine lv_goto (tgt := 50) hx hb dX8_year_227 (by decide) ?_
          exact ih v1 v2 v3 ls (lv_sub hl [3, 4, 5, 6, 2, 1, 0] rfl) _ h K0
        · have h := if_f hc h
          refine lv_iconst (v := (1 : Int32)) hx hb dX8_year_216 (by decide) ?_
          refine lv_goto (tgt := 221) hx hb dX8_year_217 (by decide) ?_
          refine lv_iadd hx hb dX8_year_221 ?_
          refine lv_topi (fun v4 ev4 => ?_)
          have h := nm_ap ev4 h
          refine lv_istore (lv' := [(5, .int v4), (4, .int v1), (0, .ref (a0 0)), (1, .int x1), (2, .int x2), (3, .int x3), (6, .int x6), (11, .int x11)]) hx hb dX8_year_222 hl (by decide) rfl (fun ls hl => ?_)
          obtain ⟨v5, ev5⟩ : ∃ y : Int32, y = x6 + (1 : Int32) := ⟨_, rfl⟩
          refine lv_iinc (v := v5) (lv' := [(6, .int v5), (5, .int v4), (4, .int v1), (0, .ref (a0 0)), (1, .int x1), (2, .int x2), (3, .int x3), (11, .int x11)]) hx hb dX8_year_224 hl (k := 6) rfl (by rw [ev5]; rfl) (by decide) rfl (fun ls hl => ?_)
          have h := nm_ap ev5 h
          refine lv_goto (tgt := 50) hx hb dX8_year_227 (by decide) ?_
          exact ih v1 v4 v5 ls (lv_sub hl [3, 4, 5, 6, 2, 1, 0] rfl) _ h K0
      have JP50_189 : ∀ (k0 : Int32) (x4 : Int32) (x5 : Int32) (x6 : Int32) (x9 : Int32) (ls : Array Slot) (_ : lv_has ls 12 [(0, .ref (a0 0)), (1, .int x1), (2, .int x2), (3, .int x3), (4, .int x4), (5, .int x5), (6, .int x6), (9, .int x9)]) (_ : J_X8_year_189l50 (L_X8_year_50 x1 x2 x3 o0 n) k0 x1 x2 x3 x4 x5 x6 x9 o0 = some res), W p l e rmX8_year s m args below meth c s.heap [] 0 0 Q (F0 m 189 ls [.int k0]) := by
        intro k0 x4 x5 x6 x9 ls hl h
        unfold J_X8_year_189l50 at h
        refine lv_istore (lv' := [(11, .int k0), (0, .ref (a0 0)), (1, .int x1), (2, .int x2), (3, .int x3), (4, .int x4), (5, .int x5), (6, .int x6), (9, .int x9)]) hx hb dX8_year_189 hl (by decide) rfl (fun ls hl => ?_)
        refine lv_iload hx hb dX8_year_191 (lv_at hl 5 rfl) ?_
        refine lv_iload hx hb dX8_year_193 (lv_at hl 0 rfl) ?_
        refine lv_if_eq (tgt := 205) hx hb dX8_year_195 (by decide) (fun hc => ?_) (fun hc => ?_)
        · have h := if_t hc h
          refine lv_iconst (v := (0 : Int32)) hx hb dX8_year_205 (by decide) ?_
          exact JP50_206 x4 (0 : Int32) x5 x6 k0 ls (lv_sub hl [1, 2, 3, 4, 6, 7, 0] rfl) h
        · have h := if_f hc h
          refine lv_iconst (v := (1 : Int32)) hx hb dX8_year_198 (by decide) ?_
          refine lv_iload hx hb dX8_year_199 (lv_at hl 8 rfl) ?_
          refine lv_ishl hx hb dX8_year_201 ?_
          refine lv_goto (tgt := 206) hx hb dX8_year_202 (by decide) ?_
          exact JP50_206 x4 ((1 : Int32) <<< (x9 &&& 31)) x5 x6 k0 ls (lv_sub hl [1, 2, 3, 4, 6, 7, 0] rfl) h
      have JP50_152 : ∀ (k0 : Int32) (x4 : Int32) (x5 : Int32) (x6 : Int32) (x9 : Int32) (ls : Array Slot) (_ : lv_has ls 12 [(0, .ref (a0 0)), (1, .int x1), (2, .int x2), (3, .int x3), (4, .int x4), (5, .int x5), (6, .int x6), (9, .int x9)]) (_ : J_X8_year_152l50 (L_X8_year_50 x1 x2 x3 o0 n) k0 x1 x2 x3 x4 x5 x6 x9 o0 = some res), W p l e rmX8_year s m args below meth c s.heap [] 0 0 Q (F0 m 152 ls [.int k0]) := by
        intro k0 x4 x5 x6 x9 ls hl h
        unfold J_X8_year_152l50 at h
        refine lv_istore (lv' := [(10, .int k0), (0, .ref (a0 0)), (1, .int x1), (2, .int x2), (3, .int x3), (4, .int x4), (5, .int x5), (6, .int x6), (9, .int x9)]) hx hb dX8_year_152 hl (by decide) rfl (fun ls hl => ?_)
        refine lv_iload hx hb dX8_year_154 (lv_at hl 5 rfl) ?_
        refine lv_iload hx hb dX8_year_156 (lv_at hl 8 rfl) ?_
        obtain ⟨z1, hz1, h⟩ := bd_some h
        refine cR_S (As := [.int x4, .int x9]) (rest := []) ⟨hx, hb, hml, hown, hts⟩ (c_X8_has l D cA  x4 x9 z1 hz1) (va_cwS 2 hts gX8_year_X8_has rfl rfl rfl hd_X8_has.2 ⟨(Nat.le_of_ble_eq_true rfl), (Nat.le_of_ble_eq_true rfl)⟩) hK hP [] rfl rfl hl.1 rfl (Nat.le_of_ble_eq_true rfl) dX8_year_158 ⟨(Nat.le_of_ble_eq_true rfl), (Nat.le_of_ble_eq_true rfl)⟩ ?_
        refine lv_if_eq (tgt := 187) hx hb dX8_year_161 (by decide) (fun hc => ?_) (fun hc => ?_)
        · have h := if_t hc h
          refine lv_iload hx hb dX8_year_187 (lv_at hl 0 rfl) ?_
          exact JP50_189 k0 x4 x5 x6 x9 ls (lv_sub hl [1, 2, 3, 4, 5, 6, 7, 8] rfl) h
        · have h := if_f hc h
          refine lv_aload_n hx hb dX8_year_164 rfl (lv_at hl 1 rfl) ?_
          refine lv_iload hx hb dX8_year_165 (lv_at hl 8 rfl) ?_
          refine lv_iload hx hb dX8_year_167 (lv_at hl 5 rfl) ?_
          refine lv_aload_n hx hb dX8_year_169 rfl (lv_at hl 1 rfl) ?_
          refine va_get (D := D) (ci := 8) (v := .ref (a0 4)) (C := RX8) (T := TX8) (N := 27) hx hb hts hinX8 hown hK.1 hP 0 rfl rfl 3 (by decide) lkf16 (fun _ h9 => h9) rfl dX8_year_170 ?_
          refine lv_iconst (v := (0 : Int32)) hx hb dX8_year_173 (by decide) ?_
          refine iald (q0 := 0) (t0 := 0) (j := 0) hx hb hK hP 3 rfl rfl (vp_in_iff.mpr (by decide)) dX8_year_174 ?_
          refine lv_aload_n hx hb dX8_year_175 rfl (lv_at hl 1 rfl) ?_
          refine va_get (D := D) (ci := 8) (v := .ref (a0 13)) (C := RX8) (T := TX8) (N := 27) hx hb hts hinX8 hown hK.1 hP 0 rfl rfl 12 (by decide) lkf43 (fun _ h9 => h9) rfl dX8_year_176 ?_
          refine lv_iconst (v := (0 : Int32)) hx hb dX8_year_179 (by decide) ?_
          refine iald (q0 := 0) (t0 := 0) (j := 0) hx hb hK hP 12 rfl rfl (vp_in_iff.mpr (by decide)) dX8_year_180 ?_
          obtain ⟨z2, hz2, h⟩ := bd_some h
          refine cR_V (As := [.int x9, .int x4, .int (o0.2 3 0), .int (o0.2 12 0)]) (rest := []) ⟨hx, hb, hml, hown, hts⟩ (c_X8_mayBe l D cA a0 o0 x9 x4 (o0.2 3 0) (o0.2 12 0) z2 hz2) (cwV 4 hts gX8_year_X8_mayBe rfl rfl rfl hd_X8_mayBe ⟨(Nat.le_of_ble_eq_true rfl), (Nat.le_of_ble_eq_true rfl)⟩) (recvK hK hP 0 8 rfl rfl) hK hP [0, 1, 2, 3, 4, 5, 6, 7, 8, 9, 10, 11, 12, 13, 14, 15, 16, 17, 18, 19, 20, 21, 22] rfl rfl hl.1 rfl (Nat.le_of_ble_eq_true rfl) dX8_year_181 ⟨(Nat.le_of_ble_eq_true rfl), (Nat.le_of_ble_eq_true rfl)⟩ ?_
          refine lv_goto (tgt := 189) hx hb dX8_year_184 (by decide) ?_
          exact JP50_189 z2 x4 x5 x6 x9 ls (lv_sub hl [1, 2, 3, 4, 5, 6, 7, 8] rfl) h
      have JP50_151 : ∀ (x4 : Int32) (x5 : Int32) (x6 : Int32) (x9 : Int32) (ls : Array Slot) (_ : lv_has ls 12 [(0, .ref (a0 0)), (1, .int x1), (2, .int x2), (3, .int x3), (4, .int x4), (5, .int x5), (6, .int x6), (9, .int x9)]) (_ : J_X8_year_151l50 (L_X8_year_50 x1 x2 x3 o0 n) x1 x2 x3 x4 x5 x6 x9 o0 = some res), W p l e rmX8_year s m args below meth c s.heap [] 0 0 Q (F0 m 151 ls []) := by
        intro x4 x5 x6 x9 ls hl h
        unfold J_X8_year_151l50 at h
        refine lv_iconst (v := (0 : Int32)) hx hb dX8_year_151 (by decide) ?_
        exact JP50_152 (0 : Int32) x4 x5 x6 x9 ls (lv_sub hl [0, 1, 2, 3, 4, 5, 6, 7] rfl) h
      refine lv_iload hx hb dX8_year_50 (lv_at hl 6 rfl) ?_
      refine lv_iload_n hx hb dX8_year_52 rfl (lv_at hl 2 rfl) ?_
      refine lv_icmp_ge (tgt := 230) hx hb dX8_year_53 (by decide) (fun hc => ?_) (fun hc => ?_)
      · have h := if_t hc h
        cases h
        exact K0 _ (lv_sub hl [3, 4, 5] rfl)
      · have h := if_f hc h
        refine lv_ldc2 hx hb hown lkc203 dX8_year_56 ?_
        refine lv_iload_n hx hb dX8_year_59 rfl (lv_at hl 1 rfl) ?_
        refine lv_i2l hx hb dX8_year_60 rfl ?_
        refine lv_lmul hx hb dX8_year_61 ?_
        refine lv_ldc2 hx hb hown lkc205 dX8_year_62 ?_
        refine lv_iload hx hb dX8_year_65 (lv_at hl 6 rfl) ?_
        refine lv_i2l hx hb dX8_year_67 rfl ?_
        refine lv_lmul hx hb dX8_year_68 ?_
        refine lv_ladd hx hb dX8_year_69 ?_
        refine lv_lconst (v := (1 : Int64)) hx hb dX8_year_70 (by decide) ?_
        refine lv_ladd hx hb dX8_year_71 ?_
        refine lv_topl (fun v1 ev1 => ?_)
        have h := nm_ap ev1 h
        refine lv_lstore (lv' := [(7, .long v1), (0, .ref (a0 0)), (1, .int x1), (2, .int x2), (3, .int x3), (4, .int x4), (5, .int x5), (6, .int x6)]) hx hb dX8_year_72 hl (by decide) rfl (fun ls hl => ?_)
        refine lv_lload hx hb dX8_year_74 (lv_at hl 0 rfl) ?_
        refine lv_lload hx hb dX8_year_76 (lv_at hl 0 rfl) ?_
        refine lv_lmul hx hb dX8_year_78 ?_
        refine lv_ldc2 hx hb hown lkc207 dX8_year_79 ?_
        refine lv_lrem hx hb dX8_year_82 (by decide) ?_
        refine lv_aload_n hx hb dX8_year_83 rfl (lv_at hl 1 rfl) ?_
        refine va_get (D := D) (ci := 8) (v := .ref (a0 6)) (C := RX8) (T := TX8) (N := 27) hx hb hts hinX8 hown hK.1 hP 0 rfl rfl 5 (by decide) lkf22 (fun _ h9 => h9) rfl dX8_year_84 ?_
        refine lv_iconst (v := (0 : Int32)) hx hb dX8_year_87 (by decide) ?_
        refine iald (q0 := 0) (t0 := 0) (j := 0) hx hb hK hP 5 rfl rfl (vp_in_iff.mpr (by decide)) dX8_year_88 ?_
        refine lv_i2l hx hb dX8_year_89 rfl ?_
        obtain ⟨hn2, h⟩ := gd_some h
        refine lv_lrem hx hb dX8_year_90 (of_decide_eq_true hn2) ?_
        refine lv_l2i hx hb dX8_year_91 rfl ?_
        refine lv_topi (fun v3 ev3 => ?_)
        have h := nm_ap ev3 h
        refine lv_istore (lv' := [(9, .int v3), (7, .long v1), (0, .ref (a0 0)), (1, .int x1), (2, .int x2), (3, .int x3), (4, .int x4), (5, .int x5), (6, .int x6)]) hx hb dX8_year_92 hl (by decide) rfl (fun ls hl => ?_)
        refine lv_aload_n hx hb dX8_year_94 rfl (lv_at hl 2 rfl) ?_
        refine va_get (D := D) (ci := 8) (v := .ref (a0 4)) (C := RX8) (T := TX8) (N := 27) hx hb hts hinX8 hown hK.1 hP 0 rfl rfl 3 (by decide) lkf16 (fun _ h9 => h9) rfl dX8_year_95 ?_
        refine lv_iconst (v := (0 : Int32)) hx hb dX8_year_98 (by decide) ?_
        refine iald (q0 := 0) (t0 := 0) (j := 0) hx hb hK hP 3 rfl rfl (vp_in_iff.mpr (by decide)) dX8_year_99 ?_
        refine lv_aload_n hx hb dX8_year_100 rfl (lv_at hl 2 rfl) ?_
        refine va_get (D := D) (ci := 8) (v := .ref (a0 7)) (C := RX8) (T := TX8) (N := 27) hx hb hts hinX8 hown hK.1 hP 0 rfl rfl 6 (by decide) lkf25 (fun _ h9 => h9) rfl dX8_year_101 ?_
        refine lv_iload hx hb dX8_year_104 (lv_at hl 0 rfl) ?_
        obtain ⟨hi4, h⟩ := gd_some h
        refine iald (q0 := 0) (t0 := 0) (j := v3.toNatClampNeg) hx hb hK hP 6 rfl rfl (ck_in hi4) dX8_year_106 ?_
        obtain ⟨z5, hz5, h⟩ := bd_some h
        refine cR_S (As := [.int (o0.2 3 0), .int (o0.2 6 v3.toNatClampNeg)]) (rest := []) ⟨hx, hb, hml, hown, hts⟩ (c_X8_has l D cA  (o0.2 3 0) (o0.2 6 v3.toNatClampNeg) z5 hz5) (va_cwS 2 hts gX8_year_X8_has rfl rfl rfl hd_X8_has.2 ⟨(Nat.le_of_ble_eq_true rfl), (Nat.le_of_ble_eq_true rfl)⟩) hK hP [] rfl rfl hl.1 rfl (Nat.le_of_ble_eq_true rfl) dX8_year_107 ⟨(Nat.le_of_ble_eq_true rfl), (Nat.le_of_ble_eq_true rfl)⟩ ?_
        refine lv_if_eq (tgt := 151) hx hb dX8_year_110 (by decide) (fun hc => ?_) (fun hc => ?_)
        · have h := if_t hc h
          exact JP50_151 x4 x5 x6 v3 ls (lv_sub hl [2, 3, 4, 5, 6, 7, 8, 0] rfl) h
        · have h := if_f hc h
          refine lv_aload_n hx hb dX8_year_113 rfl (lv_at hl 2 rfl) ?_
          refine va_get (D := D) (ci := 8) (v := .ref (a0 4)) (C := RX8) (T := TX8) (N := 27) hx hb hts hinX8 hown hK.1 hP 0 rfl rfl 3 (by decide) lkf16 (fun _ h9 => h9) rfl dX8_year_114 ?_
          refine lv_iconst (v := (0 : Int32)) hx hb dX8_year_117 (by decide) ?_
          refine iald (q0 := 0) (t0 := 0) (j := 0) hx hb hK hP 3 rfl rfl (vp_in_iff.mpr (by decide)) dX8_year_118 ?_
          refine lv_aload_n hx hb dX8_year_119 rfl (lv_at hl 2 rfl) ?_
          refine va_get (D := D) (ci := 8) (v := .ref (a0 8)) (C := RX8) (T := TX8) (N := 27) hx hb hts hinX8 hown hK.1 hP 0 rfl rfl 7 (by decide) lkf28 (fun _ h9 => h9) rfl dX8_year_120 ?_
          refine lv_iload hx hb dX8_year_123 (lv_at hl 0 rfl) ?_
          refine iald (q0 := 0) (t0 := 0) (j := v3.toNatClampNeg) hx hb hK hP 7 rfl rfl (ck_in hi4) dX8_year_125 ?_
          obtain ⟨z6, hz6, h⟩ := bd_some h
          refine cR_S (As := [.int (o0.2 3 0), .int (o0.2 7 v3.toNatClampNeg)]) (rest := []) ⟨hx, hb, hml, hown, hts⟩ (c_X8_has l D cA  (o0.2 3 0) (o0.2 7 v3.toNatClampNeg) z6 hz6) (va_cwS 2 hts gX8_year_X8_has rfl rfl rfl hd_X8_has.2 ⟨(Nat.le_of_ble_eq_true rfl), (Nat.le_of_ble_eq_true rfl)⟩) hK hP [] rfl rfl hl.1 rfl (Nat.le_of_ble_eq_true rfl) dX8_year_126 ⟨(Nat.le_of_ble_eq_true rfl), (Nat.le_of_ble_eq_true rfl)⟩ ?_
          refine lv_if_eq (tgt := 151) hx hb dX8_year_129 (by decide) (fun hc => ?_) (fun hc => ?_)
          · have h := if_t hc h
            exact JP50_151 x4 x5 x6 v3 ls (lv_sub hl [2, 3, 4, 5, 6, 7, 8, 0] rfl) h
          · have h := if_f hc h
            refine lv_aload_n hx hb dX8_year_132 rfl (lv_at hl 2 rfl) ?_
            refine va_get (D := D) (ci := 8) (v := .ref (a0 9)) (C := RX8) (T := TX8) (N := 27) hx hb hts hinX8 hown hK.1 hP 0 rfl rfl 8 (by decide) lkf31 (fun _ h9 => h9) rfl dX8_year_133 ?_
            refine lv_iload hx hb dX8_year_136 (lv_at hl 0 rfl) ?_
            refine iald (q0 := 0) (t0 := 0) (j := v3.toNatClampNeg) hx hb hK hP 8 rfl rfl (ck_in hi4) dX8_year_138 ?_
            refine lv_iload hx hb dX8_year_139 (lv_at hl 6 rfl) ?_
            refine lv_iconst (v := (-1 : Int32)) hx hb dX8_year_141 (by decide) ?_
            refine lv_ixor hx hb dX8_year_142 ?_
            refine lv_iand hx hb dX8_year_143 ?_
            refine lv_if_ne (tgt := 151) hx hb dX8_year_144 (by decide) (fun hc => ?_) (fun hc => ?_)
            · have h := if_f hc h
              exact JP50_151 x4 x5 x6 v3 ls (lv_sub hl [2, 3, 4, 5, 6, 7, 8, 0] rfl) h
            · have h := if_t hc h
              refine lv_iconst (v := (1 : Int32)) hx hb dX8_year_147 (by decide) ?_
              refine lv_goto (tgt := 152) hx hb dX8_year_148 (by decide) ?_
              exact JP50_152 (1 : Int32) x4 x5 x6 v3 ls (lv_sub hl [2, 3, 4, 5, 6, 7, 8, 0] rfl) h
  refine lv_iload_n hx hb dX8_year_0 rfl (lv_at hl 1 rfl) ?_
  refine lv_i2l hx hb dX8_year_1 rfl ?_
  refine lv_lconst (v := (0 : Int64)) hx hb dX8_year_2 (by decide) ?_
  refine lv_ldc2 hx hb hown lkc199 dX8_year_3 ?_
  obtain ⟨z1, hz1, h⟩ := bd_some h
  refine cR_S (As := [.long x1.toInt64, .long (0 : Int64), .long (9999 : Int64)]) (rest := []) ⟨hx, hb, hml, hown, hts⟩ (c_X8_in l D cA  x1.toInt64 (0 : Int64) (9999 : Int64) z1 hz1) (va_cwS 3 hts gX8_year_X8_in rfl rfl rfl hd_X8_in.2 ⟨(Nat.le_of_ble_eq_true rfl), (Nat.le_of_ble_eq_true rfl)⟩) hK hP [] rfl rfl hl.1 rfl (Nat.le_of_ble_eq_true rfl) dX8_year_6 ⟨(Nat.le_of_ble_eq_true rfl), (Nat.le_of_ble_eq_true rfl)⟩ ?_
  refine lv_if_eq (tgt := 34) hx hb dX8_year_9 (by decide) (fun hc => ?_) (fun hc => ?_)
  · have h := if_t hc h
    refine lv_iconst (v := (-1 : Int32)) hx hb dX8_year_34 (by decide) ?_
    cases h
    exact hend _ _ dX8_year_35
  · have h := if_f hc h
    refine lv_iload_n hx hb dX8_year_12 rfl (lv_at hl 2 rfl) ?_
    refine lv_i2l hx hb dX8_year_13 rfl ?_
    refine lv_lconst (v := (1 : Int64)) hx hb dX8_year_14 (by decide) ?_
    refine lv_ldc2 hx hb hown lkc201 dX8_year_15 ?_
    obtain ⟨z2, hz2, h⟩ := bd_some h
    refine cR_S (As := [.long x2.toInt64, .long (1 : Int64), .long (60 : Int64)]) (rest := []) ⟨hx, hb, hml, hown, hts⟩ (c_X8_in l D cA  x2.toInt64 (1 : Int64) (60 : Int64) z2 hz2) (va_cwS 3 hts gX8_year_X8_in rfl rfl rfl hd_X8_in.2 ⟨(Nat.le_of_ble_eq_true rfl), (Nat.le_of_ble_eq_true rfl)⟩) hK hP [] rfl rfl hl.1 rfl (Nat.le_of_ble_eq_true rfl) dX8_year_18 ⟨(Nat.le_of_ble_eq_true rfl), (Nat.le_of_ble_eq_true rfl)⟩ ?_
    refine lv_if_eq (tgt := 34) hx hb dX8_year_21 (by decide) (fun hc => ?_) (fun hc => ?_)
    · have h := if_t hc h
      refine lv_iconst (v := (-1 : Int32)) hx hb dX8_year_34 (by decide) ?_
      cases h
      exact hend _ _ dX8_year_35
    · have h := if_f hc h
      refine lv_iload_n hx hb dX8_year_24 rfl (lv_at hl 3 rfl) ?_
      refine lv_i2l hx hb dX8_year_25 rfl ?_
      refine lv_lconst (v := (0 : Int64)) hx hb dX8_year_26 (by decide) ?_
      refine lv_lconst (v := (1 : Int64)) hx hb dX8_year_27 (by decide) ?_
      obtain ⟨z3, hz3, h⟩ := bd_some h
      refine cR_S (As := [.long x3.toInt64, .long (0 : Int64), .long (1 : Int64)]) (rest := []) ⟨hx, hb, hml, hown, hts⟩ (c_X8_in l D cA  x3.toInt64 (0 : Int64) (1 : Int64) z3 hz3) (va_cwS 3 hts gX8_year_X8_in rfl rfl rfl hd_X8_in.2 ⟨(Nat.le_of_ble_eq_true rfl), (Nat.le_of_ble_eq_true rfl)⟩) hK hP [] rfl rfl hl.1 rfl (Nat.le_of_ble_eq_true rfl) dX8_year_28 ⟨(Nat.le_of_ble_eq_true rfl), (Nat.le_of_ble_eq_true rfl)⟩ ?_
      refine lv_if_ne (tgt := 36) hx hb dX8_year_31 (by decide) (fun hc => ?_) (fun hc => ?_)
      · have h := if_f hc h
        refine lv_aload_n hx hb dX8_year_36 rfl (lv_at hl 0 rfl) ?_
        refine va_get (D := D) (ci := 8) (v := .ref (a0 12)) (C := RX8) (T := TX8) (N := 27) hx hb hts hinX8 hown hK.1 hP 0 rfl rfl 11 (by decide) lkf40 (fun _ h9 => h9) rfl dX8_year_37 ?_
        refine lv_iconst (v := (0 : Int32)) hx hb dX8_year_40 (by decide) ?_
        refine iald (q0 := 0) (t0 := 0) (j := 0) hx hb hK hP 11 rfl rfl (vp_in_iff.mpr (by decide)) dX8_year_41 ?_
        refine lv_topi (fun v4 ev4 => ?_)
        have h := nm_ap ev4 h
        refine lv_istore (lv' := [(4, .int v4), (0, .ref (a0 0)), (1, .int x1), (2, .int x2), (3, .int x3)]) hx hb dX8_year_42 hl (by decide) rfl (fun ls hl => ?_)
        refine lv_iconst (v := (0 : Int32)) hx hb dX8_year_44 (by decide) ?_
        refine lv_istore (lv' := [(5, .int (0 : Int32)), (4, .int v4), (0, .ref (a0 0)), (1, .int x1), (2, .int x2), (3, .int x3)]) hx hb dX8_year_45 hl (by decide) rfl (fun ls hl => ?_)
        refine lv_iconst (v := (0 : Int32)) hx hb dX8_year_47 (by decide) ?_
        refine lv_istore (lv' := [(6, .int (0 : Int32)), (5, .int (0 : Int32)), (4, .int v4), (0, .ref (a0 0)), (1, .int x1), (2, .int x2), (3, .int x3)]) hx hb dX8_year_48 hl (by decide) rfl (fun ls hl => ?_)
        obtain ⟨z5, hz5, h⟩ := bd_some h
        refine LP50 x1 x2 x3 512 v4 (0 : Int32) (0 : Int32) ls (lv_sub hl [3, 4, 5, 6, 2, 1, 0] rfl) _ hz5 ?_
        · intro ls hl
          refine lv_iload_n hx hb dX8_year_230 rfl (lv_at hl 0 rfl) ?_
          refine lv_if_ne (tgt := 239) hx hb dX8_year_231 (by decide) (fun hc => ?_) (fun hc => ?_)
          · have h := if_f hc h
            refine lv_iload hx hb dX8_year_239 (lv_at hl 2 rfl) ?_
            cases h
            exact hend _ _ dX8_year_241
          · have h := if_t hc h
            refine lv_iload hx hb dX8_year_234 (lv_at hl 1 rfl) ?_
            refine lv_goto (tgt := 241) hx hb dX8_year_236 (by decide) ?_
            cases h
            exact hend _ _ dX8_year_241
      · have h := if_t hc h
        refine lv_iconst (v := (-1 : Int32)) hx hb dX8_year_34 (by decide) ?_
        cases h
        exact hend _ _ dX8_year_35
abbrev rmX8_keep : Room := ({ frames := 1, cells := 0, slots := 0, locals := 23 } : Room)
set_option maxHeartbeats 4000000 in
set_option maxRecDepth 100000 in
theorem c_X8_keep (l : Launch) (D : va_G) (cA : ClassId) (a0 : (Nat → Nat)) (o0 : Ob) (r : Int32) (o0_ : Ob) (h : f_X8_keep o0 = some (r, o0_)) : ConW l yX8_keep wsX8_keep rmX8_keep D cA [.ref (a0 0)] (wX8 cA a0 o0) r (wX8 cA a0 o0_) := by
  refine ConW.enter (cc := cX8_keep) (maxL := 1) (by decide) rfl (Nat.le_of_ble_eq_true rfl) ?_
  intro p e s m args below meth c Q A hx hb hml hown hts hK hP hD hA hend ls hl
  have hS : va_S A s.heap s.heap [] := va_S.rf
  have hl : lv_has ls 1 [(0, .ref (a0 0))] := hl
  unfold f_X8_keep at h
  have lkf131 := hts (.fieldLink RX8 131 "TiedToTownModel" "keptMany" "I") (List.mem_of_getElem? (i := 1) rfl)
  have hinX8 : ∀ w ∈ wsX80, w ∈ wsX8_keep := fun w h => List.mem_cons_of_mem _ (List.mem_append_right _ h)
  refine lv_aload_n hx hb dX8_keep_0 rfl (lv_at hl 0 rfl) ?_
  refine va_get (D := D) (ci := 8) (v := .int (o0.1 13)) (C := RX8) (T := TX8) (N := 27) hx hb hts hinX8 hown hK.1 hP 0 rfl rfl 13 (by decide) lkf131 (fun _ h9 => h9) rfl dX8_keep_1 ?_
  refine lv_iconst (v := (2 : Int32)) hx hb dX8_keep_4 (by decide) ?_
  refine lv_icmp_ne (tgt := 11) hx hb dX8_keep_5 (by decide) (fun hc => ?_) (fun hc => ?_)
  · have h := if_f hc h
    refine lv_aload_n hx hb dX8_keep_11 rfl (lv_at hl 0 rfl) ?_
    refine lv_dup hx hb dX8_keep_12 rfl ?_
    refine va_get (D := D) (ci := 8) (v := .int (o0.1 13)) (C := RX8) (T := TX8) (N := 27) hx hb hts hinX8 hown hK.1 hP 0 rfl rfl 13 (by decide) lkf131 (fun _ h9 => h9) rfl dX8_keep_13 ?_
    refine lv_iconst (v := (1 : Int32)) hx hb dX8_keep_16 (by decide) ?_
    refine lv_iadd hx hb dX8_keep_17 ?_
    refine va_put (D := D) (ci := 8) (v := .int ((o0.1 13) + (1 : Int32))) (ty := .int) (C := RX8) (T := TX8) (N := 27) hx hb hts hinX8 tyX8 tyX8_ok nmX8 hown hK.1 hP hD hS 0 rfl rfl 13 (by decide) lkf131 (fun _ h9 => h9) rfl (by decide +kernel) rfl rfl (Nat.le_of_ble_eq_true rfl) dX8_keep_18 (fun H locs hP hD hS => ?_)
    have hP : va_P D vwCl (wX8 cA a0 (sF o0 13 ((o0.1 13) + (1 : Int32)))) H := hP
    have hD : va_D A (wX8 cA a0 (sF o0 13 ((o0.1 13) + (1 : Int32)))) := hD
    obtain ⟨s1, es1⟩ : ∃ z, z = sF o0 13 ((o0.1 13) + (1 : Int32)) := ⟨_, rfl⟩
    rw [← es1] at hP hD
    have h := nm_ap es1 h
    refine lv_aload_n hx hb dX8_keep_21 rfl (lv_at hl 0 rfl) ?_
    refine lv_iconst (v := (0 : Int32)) hx hb dX8_keep_22 (by decide) ?_
    refine lv_iconst (v := (1 : Int32)) hx hb dX8_keep_23 (by decide) ?_
    refine lv_aload_n hx hb dX8_keep_24 rfl (lv_at hl 0 rfl) ?_
    refine va_get (D := D) (ci := 8) (v := .int (s1.1 13)) (C := RX8) (T := TX8) (N := 27) hx hb hts hinX8 hown hK.1 hP 0 rfl rfl 13 (by decide) lkf131 (fun _ h9 => h9) rfl dX8_keep_25 ?_
    refine lv_iadd hx hb dX8_keep_28 ?_
    obtain ⟨z2, hz2, h⟩ := bd_some h
    refine cV_V (As := [.int (0 : Int32), .int ((1 : Int32) + (s1.1 13))]) (rest := []) (wn := (wX8 cA a0 z2)) ⟨hx, hb, hml, hown, hts⟩ (c_X8_copy l D cA a0 s1 (0 : Int32) ((1 : Int32) + (s1.1 13))  z2 hz2) (cwV 2 hts gX8_keep_X8_copy rfl rfl rfl hd_X8_copy ⟨(Nat.le_of_ble_eq_true rfl), (Nat.le_of_ble_eq_true rfl)⟩) (recvK hK hP 0 8 rfl rfl) hK hP hD hS hA [0, 1, 2, 3, 4, 5, 6, 7, 8, 9, 10, 11, 12, 13, 14, 15, 16, 17, 18, 19, 20, 21, 22] [] [0, 1, 2, 3, 4, 5, 6, 7, 8, 9, 10, 11, 12, 13, 14, 15, 16, 17, 18, 19, 20, 21, 22] rfl rfl rfl rfl rfl rfl rfl rfl hl.1 rfl (Nat.le_of_ble_eq_true rfl) dX8_keep_29 ⟨(Nat.le_of_ble_eq_true rfl), (Nat.le_of_ble_eq_true rfl)⟩ (fun H locs hP hD hS => ?_)
    refine lv_aload_n hx hb dX8_keep_32 rfl (lv_at hl 0 rfl) ?_
    refine va_get (D := D) (ci := 8) (v := .int (z2.1 13)) (C := RX8) (T := TX8) (N := 27) hx hb hts hinX8 hown hK.1 hP 0 rfl rfl 13 (by decide) lkf131 (fun _ h9 => h9) rfl dX8_keep_33 ?_
    cases h
    exact hend _ _ _ _ hP hD hS dX8_keep_36
  · have h := if_t hc h
    refine lv_bipush (v := (-3 : Int32)) hx hb dX8_keep_8 (by decide) ?_
    cases h
    exact hend _ _ _ _ hP hD hS dX8_keep_10
abbrev rmX8_back : Room := ({ frames := 1, cells := 0, slots := 0, locals := 23 } : Room)
set_option maxHeartbeats 4000000 in
set_option maxRecDepth 100000 in
theorem c_X8_back (l : Launch) (D : va_G) (cA : ClassId) (a0 : (Nat → Nat)) (o0 : Ob) (r : Int32) (o0_ : Ob) (h : f_X8_back o0 = some (r, o0_)) : ConW l yX8_back wsX8_back rmX8_back D cA [.ref (a0 0)] (wX8 cA a0 o0) r (wX8 cA a0 o0_) := by
  refine ConW.enter (cc := cX8_back) (maxL := 1) (by decide) rfl (Nat.le_of_ble_eq_true rfl) ?_
  intro p e s m args below meth c Q A hx hb hml hown hts hK hP hD hA hend ls hl
  have hS : va_S A s.heap s.heap [] := va_S.rf
  have hl : lv_has ls 1 [(0, .ref (a0 0))] := hl
  unfold f_X8_back at h
  have lkf131 := hts (.fieldLink RX8 131 "TiedToTownModel" "keptMany" "I") (List.mem_of_getElem? (i := 1) rfl)
  have hinX8 : ∀ w ∈ wsX80, w ∈ wsX8_back := fun w h => List.mem_cons_of_mem _ (List.mem_append_right _ h)
  have lkf134 := hts (.fieldLink RX8 134 "TiedToTownModel" "doneMany" "I") (List.mem_of_getElem? (i := 2) rfl)
  have lkf137 := hts (.fieldLink RX8 137 "TiedToTownModel" "rowMany" "I") (List.mem_of_getElem? (i := 3) rfl)
  refine lv_aload_n hx hb dX8_back_0 rfl (lv_at hl 0 rfl) ?_
  refine va_get (D := D) (ci := 8) (v := .int (o0.1 13)) (C := RX8) (T := TX8) (N := 27) hx hb hts hinX8 hown hK.1 hP 0 rfl rfl 13 (by decide) lkf131 (fun _ h9 => h9) rfl dX8_back_1 ?_
  refine lv_if_ne (tgt := 10) hx hb dX8_back_4 (by decide) (fun hc => ?_) (fun hc => ?_)
  · have h := if_f hc h
    refine lv_aload_n hx hb dX8_back_10 rfl (lv_at hl 0 rfl) ?_
    refine lv_iconst (v := (1 : Int32)) hx hb dX8_back_11 (by decide) ?_
    refine lv_aload_n hx hb dX8_back_12 rfl (lv_at hl 0 rfl) ?_
    refine va_get (D := D) (ci := 8) (v := .int (o0.1 13)) (C := RX8) (T := TX8) (N := 27) hx hb hts hinX8 hown hK.1 hP 0 rfl rfl 13 (by decide) lkf131 (fun _ h9 => h9) rfl dX8_back_13 ?_
    refine lv_iadd hx hb dX8_back_16 ?_
    refine lv_iconst (v := (0 : Int32)) hx hb dX8_back_17 (by decide) ?_
    obtain ⟨z1, hz1, h⟩ := bd_some h
    refine cV_V (As := [.int ((1 : Int32) + (o0.1 13)), .int (0 : Int32)]) (rest := []) (wn := (wX8 cA a0 z1)) ⟨hx, hb, hml, hown, hts⟩ (c_X8_copy l D cA a0 o0 ((1 : Int32) + (o0.1 13)) (0 : Int32)  z1 hz1) (cwV 2 hts gX8_back_X8_copy rfl rfl rfl hd_X8_copy ⟨(Nat.le_of_ble_eq_true rfl), (Nat.le_of_ble_eq_true rfl)⟩) (recvK hK hP 0 8 rfl rfl) hK hP hD hS hA [0, 1, 2, 3, 4, 5, 6, 7, 8, 9, 10, 11, 12, 13, 14, 15, 16, 17, 18, 19, 20, 21, 22] [] [0, 1, 2, 3, 4, 5, 6, 7, 8, 9, 10, 11, 12, 13, 14, 15, 16, 17, 18, 19, 20, 21, 22] rfl rfl rfl rfl rfl rfl rfl rfl hl.1 rfl (Nat.le_of_ble_eq_true rfl) dX8_back_18 ⟨(Nat.le_of_ble_eq_true rfl), (Nat.le_of_ble_eq_true rfl)⟩ (fun H locs hP hD hS => ?_)
    refine lv_aload_n hx hb dX8_back_21 rfl (lv_at hl 0 rfl) ?_
    refine lv_dup hx hb dX8_back_22 rfl ?_
    refine va_get (D := D) (ci := 8) (v := .int (z1.1 13)) (C := RX8) (T := TX8) (N := 27) hx hb hts hinX8 hown hK.1 hP 0 rfl rfl 13 (by decide) lkf131 (fun _ h9 => h9) rfl dX8_back_23 ?_
    refine lv_iconst (v := (1 : Int32)) hx hb dX8_back_26 (by decide) ?_
    refine lv_isub hx hb dX8_back_27 ?_
    refine va_put (D := D) (ci := 8) (v := .int ((z1.1 13) - (1 : Int32))) (ty := .int) (C := RX8) (T := TX8) (N := 27) hx hb hts hinX8 tyX8 tyX8_ok nmX8 hown hK.1 hP hD hS 0 rfl rfl 13 (by decide) lkf131 (fun _ h9 => h9) rfl (by decide +kernel) rfl rfl (Nat.le_of_ble_eq_true rfl) dX8_back_28 (fun H locs hP hD hS => ?_)
    have hP : va_P D vwCl (wX8 cA a0 (sF z1 13 ((z1.1 13) - (1 : Int32)))) H := hP
    have hD : va_D A (wX8 cA a0 (sF z1 13 ((z1.1 13) - (1 : Int32)))) := hD
    obtain ⟨s2, es2⟩ : ∃ z, z = sF z1 13 ((z1.1 13) - (1 : Int32)) := ⟨_, rfl⟩
    rw [← es2] at hP hD
    have h := nm_ap es2 h
    refine lv_aload_n hx hb dX8_back_31 rfl (lv_at hl 0 rfl) ?_
    refine lv_iconst (v := (0 : Int32)) hx hb dX8_back_32 (by decide) ?_
    refine va_put (D := D) (ci := 8) (v := .int (0 : Int32)) (ty := .int) (C := RX8) (T := TX8) (N := 27) hx hb hts hinX8 tyX8 tyX8_ok nmX8 hown hK.1 hP hD hS 0 rfl rfl 14 (by decide) lkf134 (fun _ h9 => h9) rfl (by decide +kernel) rfl rfl (Nat.le_of_ble_eq_true rfl) dX8_back_33 (fun H locs hP hD hS => ?_)
    have hP : va_P D vwCl (wX8 cA a0 (sF s2 14 (0 : Int32))) H := hP
    have hD : va_D A (wX8 cA a0 (sF s2 14 (0 : Int32))) := hD
    obtain ⟨s3, es3⟩ : ∃ z, z = sF s2 14 (0 : Int32) := ⟨_, rfl⟩
    rw [← es3] at hP hD
    have h := nm_ap es3 h
    refine lv_aload_n hx hb dX8_back_36 rfl (lv_at hl 0 rfl) ?_
    refine lv_iconst (v := (0 : Int32)) hx hb dX8_back_37 (by decide) ?_
    refine va_put (D := D) (ci := 8) (v := .int (0 : Int32)) (ty := .int) (C := RX8) (T := TX8) (N := 27) hx hb hts hinX8 tyX8 tyX8_ok nmX8 hown hK.1 hP hD hS 0 rfl rfl 16 (by decide) lkf137 (fun _ h9 => h9) rfl (by decide +kernel) rfl rfl (Nat.le_of_ble_eq_true rfl) dX8_back_38 (fun H locs hP hD hS => ?_)
    have hP : va_P D vwCl (wX8 cA a0 (sF s3 16 (0 : Int32))) H := hP
    have hD : va_D A (wX8 cA a0 (sF s3 16 (0 : Int32))) := hD
    obtain ⟨s4, es4⟩ : ∃ z, z = sF s3 16 (0 : Int32) := ⟨_, rfl⟩
    rw [← es4] at hP hD
    have h := nm_ap es4 h
    refine lv_aload_n hx hb dX8_back_41 rfl (lv_at hl 0 rfl) ?_
    refine va_get (D := D) (ci := 8) (v := .int (s4.1 13)) (C := RX8) (T := TX8) (N := 27) hx hb hts hinX8 hown hK.1 hP 0 rfl rfl 13 (by decide) lkf131 (fun _ h9 => h9) rfl dX8_back_42 ?_
    cases h
    exact hend _ _ _ _ hP hD hS dX8_back_45
  · have h := if_t hc h
    refine lv_bipush (v := (-2 : Int32)) hx hb dX8_back_7 (by decide) ?_
    cases h
    exact hend _ _ _ _ hP hD hS dX8_back_9
abbrev rmX8_count : Room := ({ frames := 1, cells := 0, slots := 0, locals := 22 } : Room)
set_option maxHeartbeats 4000000 in
set_option maxRecDepth 100000 in
theorem c_X8_count (l : Launch) (D : va_G) (cA : ClassId) (a0 : (Nat → Nat)) (o0 : Ob) (x1 : Int32) (r : Int32) (h : f_X8_count o0 x1 = some r) : ConR l yX8_count wsX8_count rmX8_count D cA [.ref (a0 0), .int x1] (wX8 cA a0 o0) r := by
  refine ConR.enter (cc := cX8_count) (maxL := 2) (by decide) rfl (Nat.le_of_ble_eq_true rfl) ?_
  intro p e s m args below meth c Q hx hb hml hown hts hK hP  hend ls hl
  have hl : lv_has ls 2 [(0, .ref (a0 0)), (1, .int x1)] := hl
  unfold f_X8_count at h
  have lkf13 := hts (.fieldLink RX8 13 "TiedToTownModel" "personMany" "[I") (List.mem_of_getElem? (i := 1) rfl)
  have hinX8 : ∀ w ∈ wsX80, w ∈ wsX8_count := fun w h => List.mem_cons_of_mem _ (List.mem_append_right _ h)
  have lkf22 := hts (.fieldLink RX8 22 "TiedToTownModel" "many" "[I") (List.mem_of_getElem? (i := 2) rfl)
  have lkf40 := hts (.fieldLink RX8 40 "TiedToTownModel" "tied" "[I") (List.mem_of_getElem? (i := 3) rfl)
  have lkf43 := hts (.fieldLink RX8 43 "TiedToTownModel" "day" "[I") (List.mem_of_getElem? (i := 4) rfl)
  have lkf137 := hts (.fieldLink RX8 137 "TiedToTownModel" "rowMany" "I") (List.mem_of_getElem? (i := 5) rfl)
  have lkf134 := hts (.fieldLink RX8 134 "TiedToTownModel" "doneMany" "I") (List.mem_of_getElem? (i := 6) rfl)
  have lkf131 := hts (.fieldLink RX8 131 "TiedToTownModel" "keptMany" "I") (List.mem_of_getElem? (i := 7) rfl)
  have lkf86 := hts (.fieldLink RX8 86 "TiedToTownModel" "length" "I") (List.mem_of_getElem? (i := 8) rfl)
  have lkf19 := hts (.fieldLink RX8 19 "TiedToTownModel" "law" "[I") (List.mem_of_getElem? (i := 9) rfl)
  refine lv_iload_n hx hb dX8_count_0 rfl (lv_at hl 1 rfl) ?_
  by_cases hc1 : x1 = (0 : Int32)
  · have h := if_t hc1 h
    refine lv_tableIn (off := 51) (tgt := 52) hx hb dX8_count_1 (by rw [hc1]; decide) (by rw [hc1]; decide) (by rw [hc1]; decide) (by decide) ?_
    refine lv_aload_n hx hb dX8_count_52 rfl (lv_at hl 0 rfl) ?_
    refine va_get (D := D) (ci := 8) (v := .ref (a0 3)) (C := RX8) (T := TX8) (N := 27) hx hb hts hinX8 hown hK.1 hP 0 rfl rfl 2 (by decide) lkf13 (fun _ h9 => h9) rfl dX8_count_53 ?_
    refine lv_iconst (v := (0 : Int32)) hx hb dX8_count_56 (by decide) ?_
    refine iald (q0 := 0) (t0 := 0) (j := 0) hx hb hK hP 2 rfl rfl (vp_in_iff.mpr (by decide)) dX8_count_57 ?_
    cases h
    exact hend _ _ dX8_count_58
  have h := if_f hc1 h
  by_cases hc2 : x1 = (1 : Int32)
  · have h := if_t hc2 h
    refine lv_tableIn (off := 58) (tgt := 59) hx hb dX8_count_1 (by rw [hc2]; decide) (by rw [hc2]; decide) (by rw [hc2]; decide) (by decide) ?_
    refine lv_aload_n hx hb dX8_count_59 rfl (lv_at hl 0 rfl) ?_
    refine va_get (D := D) (ci := 8) (v := .ref (a0 6)) (C := RX8) (T := TX8) (N := 27) hx hb hts hinX8 hown hK.1 hP 0 rfl rfl 5 (by decide) lkf22 (fun _ h9 => h9) rfl dX8_count_60 ?_
    refine lv_iconst (v := (0 : Int32)) hx hb dX8_count_63 (by decide) ?_
    refine iald (q0 := 0) (t0 := 0) (j := 0) hx hb hK hP 5 rfl rfl (vp_in_iff.mpr (by decide)) dX8_count_64 ?_
    cases h
    exact hend _ _ dX8_count_65
  have h := if_f hc2 h
  by_cases hc3 : x1 = (2 : Int32)
  · have h := if_t hc3 h
    refine lv_tableIn (off := 65) (tgt := 66) hx hb dX8_count_1 (by rw [hc3]; decide) (by rw [hc3]; decide) (by rw [hc3]; decide) (by decide) ?_
    refine lv_aload_n hx hb dX8_count_66 rfl (lv_at hl 0 rfl) ?_
    refine va_get (D := D) (ci := 8) (v := .ref (a0 12)) (C := RX8) (T := TX8) (N := 27) hx hb hts hinX8 hown hK.1 hP 0 rfl rfl 11 (by decide) lkf40 (fun _ h9 => h9) rfl dX8_count_67 ?_
    refine lv_iconst (v := (0 : Int32)) hx hb dX8_count_70 (by decide) ?_
    refine iald (q0 := 0) (t0 := 0) (j := 0) hx hb hK hP 11 rfl rfl (vp_in_iff.mpr (by decide)) dX8_count_71 ?_
    obtain ⟨z4, hz4, h⟩ := bd_some h
    refine cR_S (As := [.int (o0.2 11 0)]) (rest := []) ⟨hx, hb, hml, hown, hts⟩ (c_X8_bits l D cA  (o0.2 11 0) z4 hz4) (va_cwS 1 hts gX8_count_X8_bits rfl rfl rfl hd_X8_bits.2 ⟨(Nat.le_of_ble_eq_true rfl), (Nat.le_of_ble_eq_true rfl)⟩) hK hP [] rfl rfl hl.1 rfl (Nat.le_of_ble_eq_true rfl) dX8_count_72 ⟨(Nat.le_of_ble_eq_true rfl), (Nat.le_of_ble_eq_true rfl)⟩ ?_
    cases h
    exact hend _ _ dX8_count_75
  have h := if_f hc3 h
  by_cases hc5 : x1 = (3 : Int32)
  · have h := if_t hc5 h
    refine lv_tableIn (off := 75) (tgt := 76) hx hb dX8_count_1 (by rw [hc5]; decide) (by rw [hc5]; decide) (by rw [hc5]; decide) (by decide) ?_
    refine lv_aload_n hx hb dX8_count_76 rfl (lv_at hl 0 rfl) ?_
    refine va_get (D := D) (ci := 8) (v := .ref (a0 13)) (C := RX8) (T := TX8) (N := 27) hx hb hts hinX8 hown hK.1 hP 0 rfl rfl 12 (by decide) lkf43 (fun _ h9 => h9) rfl dX8_count_77 ?_
    refine lv_iconst (v := (0 : Int32)) hx hb dX8_count_80 (by decide) ?_
    refine iald (q0 := 0) (t0 := 0) (j := 0) hx hb hK hP 12 rfl rfl (vp_in_iff.mpr (by decide)) dX8_count_81 ?_
    cases h
    exact hend _ _ dX8_count_82
  have h := if_f hc5 h
  by_cases hc6 : x1 = (4 : Int32)
  · have h := if_t hc6 h
    refine lv_tableIn (off := 82) (tgt := 83) hx hb dX8_count_1 (by rw [hc6]; decide) (by rw [hc6]; decide) (by rw [hc6]; decide) (by decide) ?_
    refine lv_aload_n hx hb dX8_count_83 rfl (lv_at hl 0 rfl) ?_
    refine va_get (D := D) (ci := 8) (v := .int (o0.1 16)) (C := RX8) (T := TX8) (N := 27) hx hb hts hinX8 hown hK.1 hP 0 rfl rfl 16 (by decide) lkf137 (fun _ h9 => h9) rfl dX8_count_84 ?_
    cases h
    exact hend _ _ dX8_count_87
  have h := if_f hc6 h
  by_cases hc7 : x1 = (5 : Int32)
  · have h := if_t hc7 h
    refine lv_tableIn (off := 87) (tgt := 88) hx hb dX8_count_1 (by rw [hc7]; decide) (by rw [hc7]; decide) (by rw [hc7]; decide) (by decide) ?_
    refine lv_aload_n hx hb dX8_count_88 rfl (lv_at hl 0 rfl) ?_
    refine va_get (D := D) (ci := 8) (v := .int (o0.1 14)) (C := RX8) (T := TX8) (N := 27) hx hb hts hinX8 hown hK.1 hP 0 rfl rfl 14 (by decide) lkf134 (fun _ h9 => h9) rfl dX8_count_89 ?_
    cases h
    exact hend _ _ dX8_count_92
  have h := if_f hc7 h
  by_cases hc8 : x1 = (6 : Int32)
  · have h := if_t hc8 h
    refine lv_tableIn (off := 92) (tgt := 93) hx hb dX8_count_1 (by rw [hc8]; decide) (by rw [hc8]; decide) (by rw [hc8]; decide) (by decide) ?_
    refine lv_aload_n hx hb dX8_count_93 rfl (lv_at hl 0 rfl) ?_
    refine va_get (D := D) (ci := 8) (v := .int (o0.1 13)) (C := RX8) (T := TX8) (N := 27) hx hb hts hinX8 hown hK.1 hP 0 rfl rfl 13 (by decide) lkf131 (fun _ h9 => h9) rfl dX8_count_94 ?_
    cases h
    exact hend _ _ dX8_count_97
  have h := if_f hc8 h
  by_cases hc9 : x1 = (7 : Int32)
  · have h := if_t hc9 h
    refine lv_tableIn (off := 97) (tgt := 98) hx hb dX8_count_1 (by rw [hc9]; decide) (by rw [hc9]; decide) (by rw [hc9]; decide) (by decide) ?_
    refine lv_aload_n hx hb dX8_count_98 rfl (lv_at hl 0 rfl) ?_
    refine va_get (D := D) (ci := 8) (v := .int (o0.1 0)) (C := RX8) (T := TX8) (N := 27) hx hb hts hinX8 hown hK.1 hP 0 rfl rfl 0 (by decide) lkf86 (fun _ h9 => h9) rfl dX8_count_99 ?_
    cases h
    exact hend _ _ dX8_count_102
  have h := if_f hc9 h
  by_cases hc10 : x1 = (8 : Int32)
  · have h := if_t hc10 h
    refine lv_tableIn (off := 102) (tgt := 103) hx hb dX8_count_1 (by rw [hc10]; decide) (by rw [hc10]; decide) (by rw [hc10]; decide) (by decide) ?_
    refine lv_aload_n hx hb dX8_count_103 rfl (lv_at hl 0 rfl) ?_
    refine va_get (D := D) (ci := 8) (v := .ref (a0 5)) (C := RX8) (T := TX8) (N := 27) hx hb hts hinX8 hown hK.1 hP 0 rfl rfl 4 (by decide) lkf19 (fun _ h9 => h9) rfl dX8_count_104 ?_
    refine lv_iconst (v := (0 : Int32)) hx hb dX8_count_107 (by decide) ?_
    refine iald (q0 := 0) (t0 := 0) (j := 0) hx hb hK hP 4 rfl rfl (vp_in_iff.mpr (by decide)) dX8_count_108 ?_
    cases h
    exact hend _ _ dX8_count_109
  have h := if_f hc10 h
  refine lv_tableOut (tgt := 110) hx hb dX8_count_1 (sw_out8 hc1 hc2 hc3 hc5 hc6 hc7 hc8 hc9 hc10) (by decide) ?_
  refine lv_iconst (v := (-1 : Int32)) hx hb dX8_count_110 (by decide) ?_
  cases h
  exact hend _ _ dX8_count_111
