theorem sw_out5 {x : Int32} (h0 : ¬ x = (0 : Int32)) (h1 : ¬ x = (1 : Int32)) (h2 : ¬ x = (2 : Int32)) (h3 : ¬ x = (3 : Int32)) (h4 : ¬ x = (4 : Int32)) (h5 : ¬ x = (5 : Int32)) : x.toInt < 0 ∨ (5 : Int) < x.toInt := by
  rcases Int.lt_or_le x.toInt 0 with h | h
  · exact Or.inl h
  · rcases Int.lt_or_le 5 x.toInt with h2 | h2
    · exact Or.inr h2
    · exfalso
      have hx : x = Int32.ofInt x.toInt := (Int32.ofInt_toInt x).symm
      have hc : x.toInt = 0 ∨ x.toInt = 1 ∨ x.toInt = 2 ∨ x.toInt = 3 ∨ x.toInt = 4 ∨ x.toInt = 5 := by omega
      rcases hc with hc | hc | hc | hc | hc | hc <;> rw [hc] at hx <;> simp_all
theorem sw_out8 {x : Int32} (h0 : ¬ x = (0 : Int32)) (h1 : ¬ x = (1 : Int32)) (h2 : ¬ x = (2 : Int32)) (h3 : ¬ x = (3 : Int32)) (h4 : ¬ x = (4 : Int32)) (h5 : ¬ x = (5 : Int32)) (h6 : ¬ x = (6 : Int32)) (h7 : ¬ x = (7 : Int32)) (h8 : ¬ x = (8 : Int32)) : x.toInt < 0 ∨ (8 : Int) < x.toInt := by
  rcases Int.lt_or_le x.toInt 0 with h | h
  · exact Or.inl h
  · rcases Int.lt_or_le 8 x.toInt with h2 | h2
    · exact Or.inr h2
    · exfalso
      have hx : x = Int32.ofInt x.toInt := (Int32.ofInt_toInt x).symm
      have hc : x.toInt = 0 ∨ x.toInt = 1 ∨ x.toInt = 2 ∨ x.toInt = 3 ∨ x.toInt = 4 ∨ x.toInt = 5 ∨ x.toInt = 6 ∨ x.toInt = 7 ∨ x.toInt = 8 := by omega
      rcases hc with hc | hc | hc | hc | hc | hc | hc | hc | hc <;> rw [hc] at hx <;> simp_all
abbrev rmX6_isKnot : Room := ({ frames := 0, cells := 0, slots := 0, locals := 0 } : Room)
set_option maxHeartbeats 4000000 in
set_option maxRecDepth 100000 in
theorem c_X6_isKnot (l : Launch) (D : va_G) (cA : ClassId) (a0 : (Nat → Nat)) (o0 : Ob) (x1 : Int32) (r : Int32) (h : f_X6_isKnot o0 x1 = some r) : ConR l yX6_isKnot wsX6_isKnot rmX6_isKnot D cA [.ref (a0 0), .int x1] (wX6 cA a0 o0) r := by
  refine ConZ.enter (cc := cX6_isKnot) (maxL := 2) (by decide) rfl (Nat.le_of_ble_eq_true rfl) ?_
  intro p e s m args below meth c Q hx hb hml hown hts hK hP  hend ls hl
  have hl : lv_has ls 2 [(0, .ref (a0 0)), (1, .int x1)] := hl
  unfold f_X6_isKnot at h
  have lkf40 := hts (.fieldLink RX6 40 "TiedToTown$Town" "knots" "I") (List.mem_of_getElem? (i := 1) rfl)
  have hinX6 : ∀ w ∈ wsX60, w ∈ wsX6_isKnot := fun w h => List.mem_cons_of_mem _ (List.mem_append_right _ h)
  refine lv_iload_n hx hb dX6_isKnot_0 rfl (lv_at hl 1 rfl) ?_
  refine lv_if_lt (tgt := 22) hx hb dX6_isKnot_1 (by decide) (fun hc => ?_) (fun hc => ?_)
  · have h := if_t hc h
    refine lv_iconst (v := (0 : Int32)) hx hb dX6_isKnot_22 (by decide) ?_
    cases h
    exact hend _ _ (by decide) dX6_isKnot_23
  · have h := if_f hc h
    refine lv_iload_n hx hb dX6_isKnot_4 rfl (lv_at hl 1 rfl) ?_
    refine lv_aload_n hx hb dX6_isKnot_5 rfl (lv_at hl 0 rfl) ?_
    refine va_get (D := D) (ci := 6) (v := .int (o0.1 9)) (C := RX6) (T := TX6) (N := 12) hx hb hts hinX6 hown hK.1 hP 0 rfl rfl 9 (by decide) lkf40 (fun _ h9 => h9) rfl dX6_isKnot_6 ?_
    refine lv_icmp_ge (tgt := 22) hx hb dX6_isKnot_9 (by decide) (fun hc => ?_) (fun hc => ?_)
    · have h := if_t hc h
      refine lv_iconst (v := (0 : Int32)) hx hb dX6_isKnot_22 (by decide) ?_
      cases h
      exact hend _ _ (by decide) dX6_isKnot_23
    · have h := if_f hc h
      refine lv_iload_n hx hb dX6_isKnot_12 rfl (lv_at hl 1 rfl) ?_
      refine lv_bipush (v := (8 : Int32)) hx hb dX6_isKnot_13 (by decide) ?_
      refine lv_icmp_ge (tgt := 22) hx hb dX6_isKnot_15 (by decide) (fun hc => ?_) (fun hc => ?_)
      · have h := if_t hc h
        refine lv_iconst (v := (0 : Int32)) hx hb dX6_isKnot_22 (by decide) ?_
        cases h
        exact hend _ _ (by decide) dX6_isKnot_23
      · have h := if_f hc h
        refine lv_iconst (v := (1 : Int32)) hx hb dX6_isKnot_18 (by decide) ?_
        refine lv_goto (tgt := 23) hx hb dX6_isKnot_19 (by decide) ?_
        cases h
        exact hend _ _ (by decide) dX6_isKnot_23
abbrev rmX7_has : Room := ({ frames := 0, cells := 0, slots := 0, locals := 0 } : Room)
set_option maxHeartbeats 4000000 in
set_option maxRecDepth 100000 in
theorem c_X7_has (l : Launch) (D : va_G) (cA : ClassId) (x0 : Int32) (x1 : Int32) (r : Int32) (h : f_X7_has x0 x1 = some r) : ConR l yX7_has wsX7_has rmX7_has D cA [.int x0, .int x1] ([] : va_W) r := by
  refine ConZ.enter (cc := cX7_has) (maxL := 2) (by decide) rfl (Nat.le_of_ble_eq_true rfl) ?_
  intro p e s m args below meth c Q hx hb hml hown hts hK hP  hend ls hl
  have hl : lv_has ls 2 [(0, .int x0), (1, .int x1)] := hl
  unfold f_X7_has at h
  refine lv_iload_n hx hb dX7_has_0 rfl (lv_at hl 0 rfl) ?_
  refine lv_iload_n hx hb dX7_has_1 rfl (lv_at hl 1 rfl) ?_
  refine lv_ishr hx hb dX7_has_2 ?_
  refine lv_iconst (v := (1 : Int32)) hx hb dX7_has_3 (by decide) ?_
  refine lv_iand hx hb dX7_has_4 ?_
  refine lv_if_eq (tgt := 12) hx hb dX7_has_5 (by decide) (fun hc => ?_) (fun hc => ?_)
  · have h := if_t hc h
    refine lv_iconst (v := (0 : Int32)) hx hb dX7_has_12 (by decide) ?_
    cases h
    exact hend _ _ (by decide) dX7_has_13
  · have h := if_f hc h
    refine lv_iconst (v := (1 : Int32)) hx hb dX7_has_8 (by decide) ?_
    refine lv_goto (tgt := 13) hx hb dX7_has_9 (by decide) ?_
    cases h
    exact hend _ _ (by decide) dX7_has_13
abbrev rmX7_isWithin : Room := ({ frames := 0, cells := 0, slots := 0, locals := 0 } : Room)
set_option maxHeartbeats 4000000 in
set_option maxRecDepth 100000 in
theorem c_X7_isWithin (l : Launch) (D : va_G) (cA : ClassId) (x0 : Int32) (x1 : Int32) (r : Int32) (h : f_X7_isWithin x0 x1 = some r) : ConR l yX7_isWithin wsX7_isWithin rmX7_isWithin D cA [.int x0, .int x1] ([] : va_W) r := by
  refine ConZ.enter (cc := cX7_isWithin) (maxL := 2) (by decide) rfl (Nat.le_of_ble_eq_true rfl) ?_
  intro p e s m args below meth c Q hx hb hml hown hts hK hP  hend ls hl
  have hl : lv_has ls 2 [(0, .int x0), (1, .int x1)] := hl
  unfold f_X7_isWithin at h
  refine lv_iload_n hx hb dX7_isWithin_0 rfl (lv_at hl 0 rfl) ?_
  refine lv_iload_n hx hb dX7_isWithin_1 rfl (lv_at hl 1 rfl) ?_
  refine lv_iconst (v := (-1 : Int32)) hx hb dX7_isWithin_2 (by decide) ?_
  refine lv_ixor hx hb dX7_isWithin_3 ?_
  refine lv_iand hx hb dX7_isWithin_4 ?_
  refine lv_if_ne (tgt := 12) hx hb dX7_isWithin_5 (by decide) (fun hc => ?_) (fun hc => ?_)
  · have h := if_f hc h
    refine lv_iconst (v := (0 : Int32)) hx hb dX7_isWithin_12 (by decide) ?_
    cases h
    exact hend _ _ (by decide) dX7_isWithin_13
  · have h := if_t hc h
    refine lv_iconst (v := (1 : Int32)) hx hb dX7_isWithin_8 (by decide) ?_
    refine lv_goto (tgt := 13) hx hb dX7_isWithin_9 (by decide) ?_
    cases h
    exact hend _ _ (by decide) dX7_isWithin_13
abbrev rmX6_isLawful : Room := ({ frames := 1, cells := 0, slots := 0, locals := 21 } : Room)
set_option maxHeartbeats 4000000 in
set_option maxRecDepth 100000 in
theorem c_X6_isLawful (l : Launch) (D : va_G) (cA : ClassId) (a0 : (Nat → Nat)) (o0 : Ob) (x1 : Int32) (x2 : Int32) (r : Int32) (h : f_X6_isLawful o0 x1 x2 = some r) : ConR l yX6_isLawful wsX6_isLawful rmX6_isLawful D cA [.ref (a0 0), .int x1, .int x2] (wX6 cA a0 o0) r := by
  refine ConZ.enter (cc := cX6_isLawful) (maxL := 3) (by decide) rfl (Nat.le_of_ble_eq_true rfl) ?_
  intro p e s m args below meth c Q hx hb hml hown hts hK hP  hend ls hl
  have hl : lv_has ls 3 [(0, .ref (a0 0)), (1, .int x1), (2, .int x2)] := hl
  unfold f_X6_isLawful at h
  have lkf37 := hts (.fieldLink RX6 37 "TiedToTown$Town" "law" "I") (List.mem_of_getElem? (i := 1) rfl)
  have hinX6 : ∀ w ∈ wsX60, w ∈ wsX6_isLawful := fun w h => List.mem_cons_of_mem _ (List.mem_append_right _ h)
  refine lv_aload_n hx hb dX6_isLawful_0 rfl (lv_at hl 0 rfl) ?_
  refine va_get (D := D) (ci := 6) (v := .int (o0.1 8)) (C := RX6) (T := TX6) (N := 12) hx hb hts hinX6 hown hK.1 hP 0 rfl rfl 8 (by decide) lkf37 (fun _ h9 => h9) rfl dX6_isLawful_1 ?_
  refine lv_iconst (v := (2 : Int32)) hx hb dX6_isLawful_4 (by decide) ?_
  refine lv_icmp_eq (tgt := 30) hx hb dX6_isLawful_5 (by decide) (fun hc => ?_) (fun hc => ?_)
  · have h := if_t hc h
    refine lv_iconst (v := (1 : Int32)) hx hb dX6_isLawful_30 (by decide) ?_
    refine lv_goto (tgt := 35) hx hb dX6_isLawful_31 (by decide) ?_
    cases h
    exact hend _ _ (by decide) dX6_isLawful_35
  · have h := if_f hc h
    refine lv_iload_n hx hb dX6_isLawful_8 rfl (lv_at hl 1 rfl) ?_
    refine lv_iload_n hx hb dX6_isLawful_9 rfl (lv_at hl 2 rfl) ?_
    obtain ⟨z1, hz1, h⟩ := bd_some h
    refine cR_SN (As := [.int x1, .int x2]) (rest := []) ⟨hx, hb, hml, hown, hts⟩ (c_X7_isWithin l D cA  x1 x2 z1 hz1) ⟨va_cnB 2 hts gX6_isLawful_X7_isWithin_n82 rfl rfl rfl (hK.2 _ (List.mem_of_getElem? (i := 29) rfl) : va_Nw (Cond.methodLinkNest RX6 82 yX7_isWithin "TiedToTown") s) (hts (.initialized RX7) (List.mem_of_getElem? (i := 3) rfl)) hd_X7_isWithin.2 ⟨(Nat.le_of_ble_eq_true rfl), (Nat.le_of_ble_eq_true rfl)⟩, hts (.static yX7_isWithin) (List.mem_of_getElem? (i := 2) rfl), trivial⟩ hK hP [] rfl rfl hl.1 rfl (Nat.le_of_ble_eq_true rfl) dX6_isLawful_10 ⟨(Nat.le_of_ble_eq_true rfl), (Nat.le_of_ble_eq_true rfl)⟩ ?_
    refine lv_if_ne (tgt := 30) hx hb dX6_isLawful_13 (by decide) (fun hc => ?_) (fun hc => ?_)
    · have h := if_f hc h
      refine lv_iconst (v := (1 : Int32)) hx hb dX6_isLawful_30 (by decide) ?_
      refine lv_goto (tgt := 35) hx hb dX6_isLawful_31 (by decide) ?_
      cases h
      exact hend _ _ (by decide) dX6_isLawful_35
    · have h := if_t hc h
      refine lv_aload_n hx hb dX6_isLawful_16 rfl (lv_at hl 0 rfl) ?_
      refine va_get (D := D) (ci := 6) (v := .int (o0.1 8)) (C := RX6) (T := TX6) (N := 12) hx hb hts hinX6 hown hK.1 hP 0 rfl rfl 8 (by decide) lkf37 (fun _ h9 => h9) rfl dX6_isLawful_17 ?_
      refine lv_iconst (v := (1 : Int32)) hx hb dX6_isLawful_20 (by decide) ?_
      refine lv_icmp_ne (tgt := 34) hx hb dX6_isLawful_21 (by decide) (fun hc => ?_) (fun hc => ?_)
      · have h := if_f hc h
        refine lv_iconst (v := (0 : Int32)) hx hb dX6_isLawful_34 (by decide) ?_
        cases h
        exact hend _ _ (by decide) dX6_isLawful_35
      · have h := if_t hc h
        refine lv_iload_n hx hb dX6_isLawful_24 rfl (lv_at hl 1 rfl) ?_
        refine lv_iload_n hx hb dX6_isLawful_25 rfl (lv_at hl 2 rfl) ?_
        refine lv_iand hx hb dX6_isLawful_26 ?_
        refine lv_if_eq (tgt := 34) hx hb dX6_isLawful_27 (by decide) (fun hc => ?_) (fun hc => ?_)
        · have h := if_t hc h
          refine lv_iconst (v := (0 : Int32)) hx hb dX6_isLawful_34 (by decide) ?_
          cases h
          exact hend _ _ (by decide) dX6_isLawful_35
        · have h := if_f hc h
          refine lv_iconst (v := (1 : Int32)) hx hb dX6_isLawful_30 (by decide) ?_
          refine lv_goto (tgt := 35) hx hb dX6_isLawful_31 (by decide) ?_
          cases h
          exact hend _ _ (by decide) dX6_isLawful_35
abbrev rmX7_bit : Room := ({ frames := 0, cells := 0, slots := 0, locals := 0 } : Room)
set_option maxHeartbeats 4000000 in
set_option maxRecDepth 100000 in
theorem c_X7_bit (l : Launch) (D : va_G) (cA : ClassId) (x0 : Int32) (r : Int32) (h : f_X7_bit x0 = some r) : ConR l yX7_bit wsX7_bit rmX7_bit D cA [.int x0] ([] : va_W) r := by
  refine ConR.enter (cc := cX7_bit) (maxL := 1) (by decide) rfl (Nat.le_of_ble_eq_true rfl) ?_
  intro p e s m args below meth c Q hx hb hml hown hts hK hP  hend ls hl
  have hl : lv_has ls 1 [(0, .int x0)] := hl
  unfold f_X7_bit at h
  refine lv_iconst (v := (1 : Int32)) hx hb dX7_bit_0 (by decide) ?_
  refine lv_iload_n hx hb dX7_bit_1 rfl (lv_at hl 0 rfl) ?_
  refine lv_ishl hx hb dX7_bit_2 ?_
  cases h
  exact hend _ _ dX7_bit_3
abbrev rmX6_inTheWay : Room := ({ frames := 1, cells := 0, slots := 0, locals := 21 } : Room)
set_option maxHeartbeats 4000000 in
set_option maxRecDepth 100000 in
theorem c_X6_inTheWay (l : Launch) (D : va_G) (cA : ClassId) (a0 : (Nat → Nat)) (o0 : Ob) (x1 : Int32) (x2 : Int32) (r : Int32) (h : f_X6_inTheWay o0 x1 x2 = some r) : ConR l yX6_inTheWay wsX6_inTheWay rmX6_inTheWay D cA [.ref (a0 0), .int x1, .int x2] (wX6 cA a0 o0) r := by
  refine ConR.enter (cc := cX6_inTheWay) (maxL := 6) (by decide) rfl (Nat.le_of_ble_eq_true rfl) ?_
  intro p e s m args below meth c Q hx hb hml hown hts hK hP  hend ls hl
  have hl : lv_has ls 6 [(0, .ref (a0 0)), (1, .int x1), (2, .int x2)] := hl
  unfold f_X6_inTheWay at h
  have lkf21 := hts (.fieldLink RX6 21 "TiedToTown$Town" "through" "[I") (List.mem_of_getElem? (i := 1) rfl)
  have hinX6 : ∀ w ∈ wsX60, w ∈ wsX6_inTheWay := fun w h => List.mem_cons_of_mem _ (List.mem_append_right _ h)
  have lkf27 := hts (.fieldLink RX6 27 "TiedToTown$Town" "kind" "[I") (List.mem_of_getElem? (i := 2) rfl)
  have lkf18 := hts (.fieldLink RX6 18 "TiedToTown$Town" "people" "[I") (List.mem_of_getElem? (i := 3) rfl)
  have LP15 : ∀ (x1 : Int32) (x2 : Int32) (n : Nat) (x3 : Int32) (x4 : Int32) (ls : Array Slot) (_ : lv_has ls 6 [(0, .ref (a0 0)), (1, .int x1), (2, .int x2), (3, .int x3), (4, .int x4)]) (res : Int32) (_ : L_X6_inTheWay_15 x1 x2 o0 n x3 x4 = some res) (_ : (∀ (ls : Array Slot), lv_has ls 6 [(3, .int res)] → W p l e rmX6_inTheWay s m args below meth c s.heap [] 0 0 Q (F0 m 104 ls []))), W p l e rmX6_inTheWay s m args below meth c s.heap [] 0 0 Q (F0 m 15 ls []) := by
    intro x1 x2 n
    induction n with
    | zero =>
      intro x3 x4 ls hl res h K0
      exact absurd h (fun q : (none : Option (Int32)) = some res => by cases q)
    | succ n ih =>
      intro x3 x4 ls hl res h K0
      have h : L_X6_inTheWay_15_step x1 x2 o0 (L_X6_inTheWay_15 x1 x2 o0 n) x3 x4 = some res := h
      unfold L_X6_inTheWay_15_step at h
      have JP15_68 : ∀ (k0 : Int32) (x3 : Int32) (x4 : Int32) (ls : Array Slot) (_ : lv_has ls 6 [(0, .ref (a0 0)), (1, .int x1), (2, .int x2), (3, .int x3), (4, .int x4)]) (_ : J_X6_inTheWay_68l15 (L_X6_inTheWay_15 x1 x2 o0 n) k0 x1 x2 x3 x4 o0 = some res), W p l e rmX6_inTheWay s m args below meth c s.heap [] 0 0 Q (F0 m 68 ls [.int k0]) := by
        intro k0 x3 x4 ls hl h
        unfold J_X6_inTheWay_68l15 at h
        refine lv_istore (lv' := [(5, .int k0), (0, .ref (a0 0)), (1, .int x1), (2, .int x2), (3, .int x3), (4, .int x4)]) hx hb dX6_inTheWay_68 hl (by decide) rfl (fun ls hl => ?_)
        refine lv_iload hx hb dX6_inTheWay_70 (lv_at hl 5 rfl) ?_
        refine lv_iload_n hx hb dX6_inTheWay_72 rfl (lv_at hl 2 rfl) ?_
        refine lv_icmp_eq (tgt := 98) hx hb dX6_inTheWay_73 (by decide) (fun hc => ?_) (fun hc => ?_)
        · have h := if_t hc h
          obtain ⟨v1, ev1⟩ : ∃ y : Int32, y = x4 + (1 : Int32) := ⟨_, rfl⟩
          refine lv_iinc (v := v1) (lv' := [(4, .int v1), (5, .int k0), (0, .ref (a0 0)), (1, .int x1), (2, .int x2), (3, .int x3)]) hx hb dX6_inTheWay_98 hl (k := 5) rfl (by rw [ev1]; rfl) (by decide) rfl (fun ls hl => ?_)
          have h := nm_ap ev1 h
          refine lv_goto (tgt := 15) hx hb dX6_inTheWay_101 (by decide) ?_
          exact ih x3 v1 ls (lv_sub hl [2, 3, 4, 5, 0] rfl) _ h K0
        · have h := if_f hc h
          refine lv_iload_n hx hb dX6_inTheWay_76 rfl (lv_at hl 3 rfl) ?_
          refine lv_iload hx hb dX6_inTheWay_77 (lv_at hl 5 rfl) ?_
          obtain ⟨z2, hz2, h⟩ := bd_some h
          refine cR_SN (As := [.int x2, .int x4]) (rest := []) ⟨hx, hb, hml, hown, hts⟩ (c_X7_has l D cA  x2 x4 z2 hz2) ⟨va_cnB 2 hts gX6_inTheWay_X7_has_n64 rfl rfl rfl (hK.2 _ (List.mem_of_getElem? (i := 28) rfl) : va_Nw (Cond.methodLinkNest RX6 64 yX7_has "TiedToTown") s) (hts (.initialized RX7) (List.mem_of_getElem? (i := 11) rfl)) hd_X7_has.2 ⟨(Nat.le_of_ble_eq_true rfl), (Nat.le_of_ble_eq_true rfl)⟩, hts (.static yX7_has) (List.mem_of_getElem? (i := 10) rfl), trivial⟩ hK hP [] rfl rfl hl.1 rfl (Nat.le_of_ble_eq_true rfl) dX6_inTheWay_79 ⟨(Nat.le_of_ble_eq_true rfl), (Nat.le_of_ble_eq_true rfl)⟩ ?_
          refine lv_if_eq (tgt := 98) hx hb dX6_inTheWay_82 (by decide) (fun hc => ?_) (fun hc => ?_)
          · have h := if_t hc h
            obtain ⟨v3, ev3⟩ : ∃ y : Int32, y = x4 + (1 : Int32) := ⟨_, rfl⟩
            refine lv_iinc (v := v3) (lv' := [(4, .int v3), (5, .int k0), (0, .ref (a0 0)), (1, .int x1), (2, .int x2), (3, .int x3)]) hx hb dX6_inTheWay_98 hl (k := 5) rfl (by rw [ev3]; rfl) (by decide) rfl (fun ls hl => ?_)
            have h := nm_ap ev3 h
            refine lv_goto (tgt := 15) hx hb dX6_inTheWay_101 (by decide) ?_
            exact ih x3 v3 ls (lv_sub hl [2, 3, 4, 5, 0] rfl) _ h K0
          · have h := if_f hc h
            refine lv_iload hx hb dX6_inTheWay_85 (lv_at hl 0 rfl) ?_
            refine lv_if_eq (tgt := 98) hx hb dX6_inTheWay_87 (by decide) (fun hc => ?_) (fun hc => ?_)
            · have h := if_t hc h
              obtain ⟨v4, ev4⟩ : ∃ y : Int32, y = x4 + (1 : Int32) := ⟨_, rfl⟩
              refine lv_iinc (v := v4) (lv' := [(4, .int v4), (5, .int k0), (0, .ref (a0 0)), (1, .int x1), (2, .int x2), (3, .int x3)]) hx hb dX6_inTheWay_98 hl (k := 5) rfl (by rw [ev4]; rfl) (by decide) rfl (fun ls hl => ?_)
              have h := nm_ap ev4 h
              refine lv_goto (tgt := 15) hx hb dX6_inTheWay_101 (by decide) ?_
              exact ih x3 v4 ls (lv_sub hl [2, 3, 4, 5, 0] rfl) _ h K0
            · have h := if_f hc h
              refine lv_iload_n hx hb dX6_inTheWay_90 rfl (lv_at hl 4 rfl) ?_
              refine lv_iload hx hb dX6_inTheWay_91 (lv_at hl 5 rfl) ?_
              obtain ⟨z5, hz5, h⟩ := bd_some h
              refine cR_SN (As := [.int x4]) (rest := [.int x3]) ⟨hx, hb, hml, hown, hts⟩ (c_X7_bit l D cA  x4 z5 hz5) ⟨va_cnB 1 hts gX6_inTheWay_X7_bit_n49 rfl rfl rfl (hK.2 _ (List.mem_of_getElem? (i := 27) rfl) : va_Nw (Cond.methodLinkNest RX6 49 yX7_bit "TiedToTown") s) (hts (.initialized RX7) (List.mem_of_getElem? (i := 11) rfl)) hd_X7_bit.2 ⟨(Nat.le_of_ble_eq_true rfl), (Nat.le_of_ble_eq_true rfl)⟩, hts (.static yX7_bit) (List.mem_of_getElem? (i := 13) rfl), trivial⟩ hK hP [] rfl rfl hl.1 rfl (Nat.le_of_ble_eq_true rfl) dX6_inTheWay_93 ⟨(Nat.le_of_ble_eq_true rfl), (Nat.le_of_ble_eq_true rfl)⟩ ?_
              refine lv_ior hx hb dX6_inTheWay_96 ?_
              refine lv_topi (fun v6 ev6 => ?_)
              have h := nm_ap ev6 h
              refine lv_istore_n (lv' := [(3, .int v6), (5, .int k0), (0, .ref (a0 0)), (1, .int x1), (2, .int x2), (4, .int x4)]) hx hb dX6_inTheWay_97 rfl hl (by decide) rfl (fun ls hl => ?_)
              obtain ⟨v7, ev7⟩ : ∃ y : Int32, y = x4 + (1 : Int32) := ⟨_, rfl⟩
              refine lv_iinc (v := v7) (lv' := [(4, .int v7), (3, .int v6), (5, .int k0), (0, .ref (a0 0)), (1, .int x1), (2, .int x2)]) hx hb dX6_inTheWay_98 hl (k := 5) rfl (by rw [ev7]; rfl) (by decide) rfl (fun ls hl => ?_)
              have h := nm_ap ev7 h
              refine lv_goto (tgt := 15) hx hb dX6_inTheWay_101 (by decide) ?_
              exact ih v6 v7 ls (lv_sub hl [3, 4, 5, 1, 0] rfl) _ h K0
      have JP15_63 : ∀ (x3 : Int32) (x4 : Int32) (ls : Array Slot) (_ : lv_has ls 6 [(0, .ref (a0 0)), (1, .int x1), (2, .int x2), (3, .int x3), (4, .int x4)]) (_ : J_X6_inTheWay_63l15 (L_X6_inTheWay_15 x1 x2 o0 n) x1 x2 x3 x4 o0 = some res), W p l e rmX6_inTheWay s m args below meth c s.heap [] 0 0 Q (F0 m 63 ls []) := by
        intro x3 x4 ls hl h
        unfold J_X6_inTheWay_63l15 at h
        refine lv_iconst (v := (1 : Int32)) hx hb dX6_inTheWay_63 (by decide) ?_
        refine lv_goto (tgt := 68) hx hb dX6_inTheWay_64 (by decide) ?_
        exact JP15_68 (1 : Int32) x3 x4 ls (lv_sub hl [0, 1, 2, 3, 4] rfl) h
      have JP15_67 : ∀ (x3 : Int32) (x4 : Int32) (ls : Array Slot) (_ : lv_has ls 6 [(0, .ref (a0 0)), (1, .int x1), (2, .int x2), (3, .int x3), (4, .int x4)]) (_ : J_X6_inTheWay_67l15 (L_X6_inTheWay_15 x1 x2 o0 n) x1 x2 x3 x4 o0 = some res), W p l e rmX6_inTheWay s m args below meth c s.heap [] 0 0 Q (F0 m 67 ls []) := by
        intro x3 x4 ls hl h
        unfold J_X6_inTheWay_67l15 at h
        refine lv_iconst (v := (0 : Int32)) hx hb dX6_inTheWay_67 (by decide) ?_
        exact JP15_68 (0 : Int32) x3 x4 ls (lv_sub hl [0, 1, 2, 3, 4] rfl) h
      refine lv_iload hx hb dX6_inTheWay_15 (lv_at hl 4 rfl) ?_
      refine lv_bipush (v := (8 : Int32)) hx hb dX6_inTheWay_17 (by decide) ?_
      refine lv_icmp_ge (tgt := 104) hx hb dX6_inTheWay_19 (by decide) (fun hc => ?_) (fun hc => ?_)
      · have h := if_t hc h
        cases h
        exact K0 _ (lv_sub hl [3] rfl)
      · have h := if_f hc h
        refine lv_aload_n hx hb dX6_inTheWay_22 rfl (lv_at hl 0 rfl) ?_
        refine va_get (D := D) (ci := 6) (v := .ref (a0 4)) (C := RX6) (T := TX6) (N := 12) hx hb hts hinX6 hown hK.1 hP 0 rfl rfl 3 (by decide) lkf21 (fun _ h9 => h9) rfl dX6_inTheWay_23 ?_
        refine lv_iload hx hb dX6_inTheWay_26 (lv_at hl 4 rfl) ?_
        obtain ⟨hi1, h⟩ := gd_some h
        refine iald (q0 := 0) (t0 := 0) (j := x4.toNatClampNeg) hx hb hK hP 4 rfl rfl (ck_in hi1) dX6_inTheWay_28 ?_
        refine lv_iload_n hx hb dX6_inTheWay_29 rfl (lv_at hl 1 rfl) ?_
        obtain ⟨z2, hz2, h⟩ := bd_some h
        refine cR_SN (As := [.int (o0.2 3 x4.toNatClampNeg), .int x1]) (rest := []) ⟨hx, hb, hml, hown, hts⟩ (c_X7_has l D cA  (o0.2 3 x4.toNatClampNeg) x1 z2 hz2) ⟨va_cnB 2 hts gX6_inTheWay_X7_has_n64 rfl rfl rfl (hK.2 _ (List.mem_of_getElem? (i := 28) rfl) : va_Nw (Cond.methodLinkNest RX6 64 yX7_has "TiedToTown") s) (hts (.initialized RX7) (List.mem_of_getElem? (i := 11) rfl)) hd_X7_has.2 ⟨(Nat.le_of_ble_eq_true rfl), (Nat.le_of_ble_eq_true rfl)⟩, hts (.static yX7_has) (List.mem_of_getElem? (i := 10) rfl), trivial⟩ hK hP [] rfl rfl hl.1 rfl (Nat.le_of_ble_eq_true rfl) dX6_inTheWay_30 ⟨(Nat.le_of_ble_eq_true rfl), (Nat.le_of_ble_eq_true rfl)⟩ ?_
        refine lv_if_ne (tgt := 63) hx hb dX6_inTheWay_33 (by decide) (fun hc => ?_) (fun hc => ?_)
        · have h := if_f hc h
          exact JP15_63 x3 x4 ls (lv_sub hl [0, 1, 2, 3, 4] rfl) h
        · have h := if_t hc h
          refine lv_aload_n hx hb dX6_inTheWay_36 rfl (lv_at hl 0 rfl) ?_
          refine va_get (D := D) (ci := 6) (v := .ref (a0 6)) (C := RX6) (T := TX6) (N := 12) hx hb hts hinX6 hown hK.1 hP 0 rfl rfl 5 (by decide) lkf27 (fun _ h9 => h9) rfl dX6_inTheWay_37 ?_
          refine lv_iload_n hx hb dX6_inTheWay_40 rfl (lv_at hl 1 rfl) ?_
          obtain ⟨hi3, h⟩ := gd_some h
          refine iald (q0 := 0) (t0 := 0) (j := x1.toNatClampNeg) hx hb hK hP 6 rfl rfl (ck_in hi3) dX6_inTheWay_41 ?_
          refine lv_iconst (v := (3 : Int32)) hx hb dX6_inTheWay_42 (by decide) ?_
          refine lv_icmp_ne (tgt := 67) hx hb dX6_inTheWay_43 (by decide) (fun hc => ?_) (fun hc => ?_)
          · have h := if_f hc h
            exact JP15_67 x3 x4 ls (lv_sub hl [0, 1, 2, 3, 4] rfl) h
          · have h := if_t hc h
            refine lv_aload_n hx hb dX6_inTheWay_46 rfl (lv_at hl 0 rfl) ?_
            refine va_get (D := D) (ci := 6) (v := .ref (a0 3)) (C := RX6) (T := TX6) (N := 12) hx hb hts hinX6 hown hK.1 hP 0 rfl rfl 2 (by decide) lkf18 (fun _ h9 => h9) rfl dX6_inTheWay_47 ?_
            refine lv_iload hx hb dX6_inTheWay_50 (lv_at hl 4 rfl) ?_
            refine iald (q0 := 0) (t0 := 0) (j := x4.toNatClampNeg) hx hb hK hP 3 rfl rfl (ck_in hi1) dX6_inTheWay_52 ?_
            refine lv_aload_n hx hb dX6_inTheWay_53 rfl (lv_at hl 0 rfl) ?_
            refine va_get (D := D) (ci := 6) (v := .ref (a0 3)) (C := RX6) (T := TX6) (N := 12) hx hb hts hinX6 hown hK.1 hP 0 rfl rfl 2 (by decide) lkf18 (fun _ h9 => h9) rfl dX6_inTheWay_54 ?_
            refine lv_iload_n hx hb dX6_inTheWay_57 rfl (lv_at hl 1 rfl) ?_
            refine iald (q0 := 0) (t0 := 0) (j := x1.toNatClampNeg) hx hb hK hP 3 rfl rfl (ck_in hi3) dX6_inTheWay_58 ?_
            refine lv_iand hx hb dX6_inTheWay_59 ?_
            refine lv_if_eq (tgt := 67) hx hb dX6_inTheWay_60 (by decide) (fun hc => ?_) (fun hc => ?_)
            · have h := if_t hc h
              exact JP15_67 x3 x4 ls (lv_sub hl [0, 1, 2, 3, 4] rfl) h
            · have h := if_f hc h
              exact JP15_63 x3 x4 ls (lv_sub hl [0, 1, 2, 3, 4] rfl) h
  refine lv_aload_n hx hb dX6_inTheWay_0 rfl (lv_at hl 0 rfl) ?_
  refine lv_iload_n hx hb dX6_inTheWay_1 rfl (lv_at hl 1 rfl) ?_
  obtain ⟨z1, hz1, h⟩ := bd_some h
  refine cR_V (As := [.int x1]) (rest := []) ⟨hx, hb, hml, hown, hts⟩ (c_X6_isKnot l D cA a0 o0 x1 z1 hz1) (cwV 1 hts gX6_inTheWay_X6_isKnot rfl rfl rfl hd_X6_isKnot ⟨(Nat.le_of_ble_eq_true rfl), (Nat.le_of_ble_eq_true rfl)⟩) (recvK hK hP 0 6 rfl rfl) hK hP [0, 1, 2, 3, 4, 5, 6] rfl rfl hl.1 rfl (Nat.le_of_ble_eq_true rfl) dX6_inTheWay_2 ⟨(Nat.le_of_ble_eq_true rfl), (Nat.le_of_ble_eq_true rfl)⟩ ?_
  refine lv_if_ne (tgt := 10) hx hb dX6_inTheWay_5 (by decide) (fun hc => ?_) (fun hc => ?_)
  · have h := if_f hc h
    refine lv_iconst (v := (0 : Int32)) hx hb dX6_inTheWay_10 (by decide) ?_
    refine lv_istore_n (lv' := [(3, .int (0 : Int32)), (0, .ref (a0 0)), (1, .int x1), (2, .int x2)]) hx hb dX6_inTheWay_11 rfl hl (by decide) rfl (fun ls hl => ?_)
    refine lv_iconst (v := (0 : Int32)) hx hb dX6_inTheWay_12 (by decide) ?_
    refine lv_istore (lv' := [(4, .int (0 : Int32)), (3, .int (0 : Int32)), (0, .ref (a0 0)), (1, .int x1), (2, .int x2)]) hx hb dX6_inTheWay_13 hl (by decide) rfl (fun ls hl => ?_)
    obtain ⟨z2, hz2, h⟩ := bd_some h
    refine LP15 x1 x2 512 (0 : Int32) (0 : Int32) ls (lv_sub hl [2, 3, 4, 1, 0] rfl) _ hz2 ?_
    · intro ls hl
      refine lv_iload_n hx hb dX6_inTheWay_104 rfl (lv_at hl 0 rfl) ?_
      cases h
      exact hend _ _ dX6_inTheWay_105
  · have h := if_t hc h
    refine lv_iconst (v := (0 : Int32)) hx hb dX6_inTheWay_8 (by decide) ?_
    cases h
    exact hend _ _ dX6_inTheWay_9
abbrev rmX6_mayBe : Room := ({ frames := 2, cells := 0, slots := 0, locals := 46 } : Room)
set_option maxHeartbeats 4000000 in
set_option maxRecDepth 100000 in
theorem c_X6_mayBe (l : Launch) (D : va_G) (cA : ClassId) (a0 : (Nat → Nat)) (o0 : Ob) (x1 : Int32) (x2 : Int32) (x3 : Int32) (x4 : Int32) (r : Int32) (h : f_X6_mayBe o0 x1 x2 x3 x4 = some r) : ConR l yX6_mayBe wsX6_mayBe rmX6_mayBe D cA [.ref (a0 0), .int x1, .int x2, .int x3, .int x4] (wX6 cA a0 o0) r := by
  refine ConZ.enter (cc := cX6_mayBe) (maxL := 5) (by decide) rfl (Nat.le_of_ble_eq_true rfl) ?_
  intro p e s m args below meth c Q hx hb hml hown hts hK hP  hend ls hl
  have hl : lv_has ls 5 [(0, .ref (a0 0)), (1, .int x1), (2, .int x2), (3, .int x3), (4, .int x4)] := hl
  unfold f_X6_mayBe at h
  have lkf18 := hts (.fieldLink RX6 18 "TiedToTown$Town" "people" "[I") (List.mem_of_getElem? (i := 1) rfl)
  have hinX6 : ∀ w ∈ wsX60, w ∈ wsX6_mayBe := fun w h => List.mem_cons_of_mem _ (List.mem_append_right _ h)
  have lkf27 := hts (.fieldLink RX6 27 "TiedToTown$Town" "kind" "[I") (List.mem_of_getElem? (i := 2) rfl)
  have lkf24 := hts (.fieldLink RX6 24 "TiedToTown$Town" "due" "[I") (List.mem_of_getElem? (i := 3) rfl)
  refine lv_aload_n hx hb dX6_mayBe_0 rfl (lv_at hl 0 rfl) ?_
  refine lv_iload_n hx hb dX6_mayBe_1 rfl (lv_at hl 1 rfl) ?_
  obtain ⟨z1, hz1, h⟩ := bd_some h
  refine cR_V (As := [.int x1]) (rest := []) ⟨hx, hb, hml, hown, hts⟩ (c_X6_isKnot l D cA a0 o0 x1 z1 hz1) (cwV 1 hts gX6_mayBe_X6_isKnot rfl rfl rfl hd_X6_isKnot ⟨(Nat.le_of_ble_eq_true rfl), (Nat.le_of_ble_eq_true rfl)⟩) (recvK hK hP 0 6 rfl rfl) hK hP [0, 1, 2, 3, 4, 5, 6] rfl rfl hl.1 rfl (Nat.le_of_ble_eq_true rfl) dX6_mayBe_2 ⟨(Nat.le_of_ble_eq_true rfl), (Nat.le_of_ble_eq_true rfl)⟩ ?_
  refine lv_if_eq (tgt := 64) hx hb dX6_mayBe_5 (by decide) (fun hc => ?_) (fun hc => ?_)
  · have h := if_t hc h
    refine lv_iconst (v := (0 : Int32)) hx hb dX6_mayBe_64 (by decide) ?_
    cases h
    exact hend _ _ (by decide) dX6_mayBe_65
  · have h := if_f hc h
    refine lv_iload_n hx hb dX6_mayBe_8 rfl (lv_at hl 2 rfl) ?_
    refine lv_iload_n hx hb dX6_mayBe_9 rfl (lv_at hl 1 rfl) ?_
    obtain ⟨z2, hz2, h⟩ := bd_some h
    refine cR_SN (As := [.int x2, .int x1]) (rest := []) ⟨hx, hb, hml, hown, hts⟩ (c_X7_has l D cA  x2 x1 z2 hz2) ⟨va_cnB 2 hts gX6_mayBe_X7_has_n64 rfl rfl rfl (hK.2 _ (List.mem_of_getElem? (i := 28) rfl) : va_Nw (Cond.methodLinkNest RX6 64 yX7_has "TiedToTown") s) (hts (.initialized RX7) (List.mem_of_getElem? (i := 11) rfl)) hd_X7_has.2 ⟨(Nat.le_of_ble_eq_true rfl), (Nat.le_of_ble_eq_true rfl)⟩, hts (.static yX7_has) (List.mem_of_getElem? (i := 10) rfl), trivial⟩ hK hP [] rfl rfl hl.1 rfl (Nat.le_of_ble_eq_true rfl) dX6_mayBe_10 ⟨(Nat.le_of_ble_eq_true rfl), (Nat.le_of_ble_eq_true rfl)⟩ ?_
    refine lv_if_eq (tgt := 64) hx hb dX6_mayBe_13 (by decide) (fun hc => ?_) (fun hc => ?_)
    · have h := if_t hc h
      refine lv_iconst (v := (0 : Int32)) hx hb dX6_mayBe_64 (by decide) ?_
      cases h
      exact hend _ _ (by decide) dX6_mayBe_65
    · have h := if_f hc h
      refine lv_aload_n hx hb dX6_mayBe_16 rfl (lv_at hl 0 rfl) ?_
      refine lv_aload_n hx hb dX6_mayBe_17 rfl (lv_at hl 0 rfl) ?_
      refine va_get (D := D) (ci := 6) (v := .ref (a0 3)) (C := RX6) (T := TX6) (N := 12) hx hb hts hinX6 hown hK.1 hP 0 rfl rfl 2 (by decide) lkf18 (fun _ h9 => h9) rfl dX6_mayBe_18 ?_
      refine lv_iload_n hx hb dX6_mayBe_21 rfl (lv_at hl 1 rfl) ?_
      obtain ⟨hi3, h⟩ := gd_some h
      refine iald (q0 := 0) (t0 := 0) (j := x1.toNatClampNeg) hx hb hK hP 3 rfl rfl (ck_in hi3) dX6_mayBe_22 ?_
      refine lv_iload hx hb dX6_mayBe_23 (lv_at hl 4 rfl) ?_
      obtain ⟨z4, hz4, h⟩ := bd_some h
      refine cR_V (As := [.int (o0.2 2 x1.toNatClampNeg), .int x4]) (rest := []) ⟨hx, hb, hml, hown, hts⟩ (c_X6_isLawful l D cA a0 o0 (o0.2 2 x1.toNatClampNeg) x4 z4 hz4) (cwV 2 hts gX6_mayBe_X6_isLawful rfl rfl rfl hd_X6_isLawful ⟨(Nat.le_of_ble_eq_true rfl), (Nat.le_of_ble_eq_true rfl)⟩) (recvK hK hP 0 6 rfl rfl) hK hP [0, 1, 2, 3, 4, 5, 6] rfl rfl hl.1 rfl (Nat.le_of_ble_eq_true rfl) dX6_mayBe_25 ⟨(Nat.le_of_ble_eq_true rfl), (Nat.le_of_ble_eq_true rfl)⟩ ?_
      refine lv_if_eq (tgt := 64) hx hb dX6_mayBe_28 (by decide) (fun hc => ?_) (fun hc => ?_)
      · have h := if_t hc h
        refine lv_iconst (v := (0 : Int32)) hx hb dX6_mayBe_64 (by decide) ?_
        cases h
        exact hend _ _ (by decide) dX6_mayBe_65
      · have h := if_f hc h
        refine lv_aload_n hx hb dX6_mayBe_31 rfl (lv_at hl 0 rfl) ?_
        refine va_get (D := D) (ci := 6) (v := .ref (a0 6)) (C := RX6) (T := TX6) (N := 12) hx hb hts hinX6 hown hK.1 hP 0 rfl rfl 5 (by decide) lkf27 (fun _ h9 => h9) rfl dX6_mayBe_32 ?_
        refine lv_iload_n hx hb dX6_mayBe_35 rfl (lv_at hl 1 rfl) ?_
        refine iald (q0 := 0) (t0 := 0) (j := x1.toNatClampNeg) hx hb hK hP 6 rfl rfl (ck_in hi3) dX6_mayBe_36 ?_
        refine lv_iconst (v := (2 : Int32)) hx hb dX6_mayBe_37 (by decide) ?_
        refine lv_icmp_ne (tgt := 51) hx hb dX6_mayBe_38 (by decide) (fun hc => ?_) (fun hc => ?_)
        · have h := if_f hc h
          refine lv_aload_n hx hb dX6_mayBe_51 rfl (lv_at hl 0 rfl) ?_
          refine lv_iload_n hx hb dX6_mayBe_52 rfl (lv_at hl 1 rfl) ?_
          refine lv_iload_n hx hb dX6_mayBe_53 rfl (lv_at hl 2 rfl) ?_
          obtain ⟨z5, hz5, h⟩ := bd_some h
          refine cR_V (As := [.int x1, .int x2]) (rest := []) ⟨hx, hb, hml, hown, hts⟩ (c_X6_inTheWay l D cA a0 o0 x1 x2 z5 hz5) (cwV 2 hts gX6_mayBe_X6_inTheWay rfl rfl rfl hd_X6_inTheWay ⟨(Nat.le_of_ble_eq_true rfl), (Nat.le_of_ble_eq_true rfl)⟩) (recvK hK hP 0 6 rfl rfl) hK hP [0, 1, 2, 3, 4, 5, 6] rfl rfl hl.1 rfl (Nat.le_of_ble_eq_true rfl) dX6_mayBe_54 ⟨(Nat.le_of_ble_eq_true rfl), (Nat.le_of_ble_eq_true rfl)⟩ ?_
          refine lv_if_ne (tgt := 64) hx hb dX6_mayBe_57 (by decide) (fun hc => ?_) (fun hc => ?_)
          · have h := if_f hc h
            refine lv_iconst (v := (0 : Int32)) hx hb dX6_mayBe_64 (by decide) ?_
            cases h
            exact hend _ _ (by decide) dX6_mayBe_65
          · have h := if_t hc h
            refine lv_iconst (v := (1 : Int32)) hx hb dX6_mayBe_60 (by decide) ?_
            refine lv_goto (tgt := 65) hx hb dX6_mayBe_61 (by decide) ?_
            cases h
            exact hend _ _ (by decide) dX6_mayBe_65
        · have h := if_t hc h
          refine lv_aload_n hx hb dX6_mayBe_41 rfl (lv_at hl 0 rfl) ?_
          refine va_get (D := D) (ci := 6) (v := .ref (a0 5)) (C := RX6) (T := TX6) (N := 12) hx hb hts hinX6 hown hK.1 hP 0 rfl rfl 4 (by decide) lkf24 (fun _ h9 => h9) rfl dX6_mayBe_42 ?_
          refine lv_iload_n hx hb dX6_mayBe_45 rfl (lv_at hl 1 rfl) ?_
          refine iald (q0 := 0) (t0 := 0) (j := x1.toNatClampNeg) hx hb hK hP 5 rfl rfl (ck_in hi3) dX6_mayBe_46 ?_
          refine lv_iload_n hx hb dX6_mayBe_47 rfl (lv_at hl 3 rfl) ?_
          refine lv_icmp_gt (tgt := 64) hx hb dX6_mayBe_48 (by decide) (fun hc => ?_) (fun hc => ?_)
          · have h := if_t hc h
            refine lv_iconst (v := (0 : Int32)) hx hb dX6_mayBe_64 (by decide) ?_
            cases h
            exact hend _ _ (by decide) dX6_mayBe_65
          · have h := if_f hc h
            refine lv_aload_n hx hb dX6_mayBe_51 rfl (lv_at hl 0 rfl) ?_
            refine lv_iload_n hx hb dX6_mayBe_52 rfl (lv_at hl 1 rfl) ?_
            refine lv_iload_n hx hb dX6_mayBe_53 rfl (lv_at hl 2 rfl) ?_
            obtain ⟨z6, hz6, h⟩ := bd_some h
            refine cR_V (As := [.int x1, .int x2]) (rest := []) ⟨hx, hb, hml, hown, hts⟩ (c_X6_inTheWay l D cA a0 o0 x1 x2 z6 hz6) (cwV 2 hts gX6_mayBe_X6_inTheWay rfl rfl rfl hd_X6_inTheWay ⟨(Nat.le_of_ble_eq_true rfl), (Nat.le_of_ble_eq_true rfl)⟩) (recvK hK hP 0 6 rfl rfl) hK hP [0, 1, 2, 3, 4, 5, 6] rfl rfl hl.1 rfl (Nat.le_of_ble_eq_true rfl) dX6_mayBe_54 ⟨(Nat.le_of_ble_eq_true rfl), (Nat.le_of_ble_eq_true rfl)⟩ ?_
            refine lv_if_ne (tgt := 64) hx hb dX6_mayBe_57 (by decide) (fun hc => ?_) (fun hc => ?_)
            · have h := if_f hc h
              refine lv_iconst (v := (0 : Int32)) hx hb dX6_mayBe_64 (by decide) ?_
              cases h
              exact hend _ _ (by decide) dX6_mayBe_65
            · have h := if_t hc h
              refine lv_iconst (v := (1 : Int32)) hx hb dX6_mayBe_60 (by decide) ?_
              refine lv_goto (tgt := 65) hx hb dX6_mayBe_61 (by decide) ?_
              cases h
              exact hend _ _ (by decide) dX6_mayBe_65
abbrev rmX0_stuck : Room := ({ frames := 3, cells := 0, slots := 0, locals := 70 } : Room)
set_option maxHeartbeats 4000000 in
set_option maxRecDepth 100000 in
theorem c_X0_stuck (l : Launch) (D : va_G) (cA : ClassId) (a0 : (Nat → Nat)) (o0 : Ob) (a1 : (Nat → Nat)) (o1 : Ob) (x1 : Int32) (x2 : Int32) (r : Int32) (h : f_X0_stuck o0 o1 x1 x2 = some r) : ConR l yX0_stuck wsX0_stuck rmX0_stuck D cA [.ref (a0 0), .int x1, .int x2] (wX0 cA a0 (a1 0) o0 ++ wX6 cA a1 o1) r := by
  refine ConR.enter (cc := cX0_stuck) (maxL := 7) (by decide) rfl (Nat.le_of_ble_eq_true rfl) ?_
  intro p e s m args below meth c Q hx hb hml hown hts hK hP  hend ls hl
  have hl : lv_has ls 7 [(0, .ref (a0 0)), (1, .int x1), (2, .int x2)] := hl
  unfold f_X0_stuck at h
  have lkf15 := hts (.fieldLink RX0 15 "TiedToTown$Outlook" "town" "LTiedToTown$Town;") (List.mem_of_getElem? (i := 1) rfl)
  have hinX0 : ∀ w ∈ wsX00, w ∈ wsX0_stuck := fun w h => List.mem_cons_of_mem _ (List.mem_append_left _ (List.mem_append_right _ h))
  have lkf32 := va_Nw.use (w := Cond.fieldLinkNest RX0 32 "TiedToTown$Town" "tied" "I" "TiedToTown") rfl (A := args) (hK.2 _ (List.mem_of_getElem? (i := 18) rfl))
  have hinX6 : ∀ w ∈ wsX60, w ∈ wsX0_stuck := fun w h => List.mem_cons_of_mem _ (List.mem_append_right _ h)
  have LP34 : ∀ (x1 : Int32) (x2 : Int32) (x4 : Int32) (x5 : Int32) (n : Nat) (x3 : Int32) (x6 : Int32) (ls : Array Slot) (_ : lv_has ls 7 [(0, .ref (a0 0)), (1, .int x1), (2, .int x2), (3, .int x3), (4, .int x4), (5, .int x5), (6, .int x6)]) (res : Int32) (_ : L_X0_stuck_34 x1 x2 x4 x5 o0 o1 n x3 x6 = some res) (_ : (∀ (ls : Array Slot), lv_has ls 7 [(0, .ref (a0 0)), (1, .int x1), (2, .int x2), (3, .int res), (4, .int x4), (5, .int x5)] → W p l e rmX0_stuck s m args below meth c s.heap [] 0 0 Q (F0 m 70 ls []))), W p l e rmX0_stuck s m args below meth c s.heap [] 0 0 Q (F0 m 34 ls []) := by
    intro x1 x2 x4 x5 n
    induction n with
    | zero =>
      intro x3 x6 ls hl res h K0
      exact absurd h (fun q : (none : Option (Int32)) = some res => by cases q)
    | succ n ih =>
      intro x3 x6 ls hl res h K0
      have h : L_X0_stuck_34_step x1 x2 x4 x5 o0 o1 (L_X0_stuck_34 x1 x2 x4 x5 o0 o1 n) x3 x6 = some res := h
      unfold L_X0_stuck_34_step at h
      refine lv_iload hx hb dX0_stuck_34 (lv_at hl 6 rfl) ?_
      refine lv_if_lt (tgt := 70) hx hb dX0_stuck_36 (by decide) (fun hc => ?_) (fun hc => ?_)
      · have h := if_t hc h
        cases h
        exact K0 _ (lv_sub hl [0, 1, 2, 3, 4, 5] rfl)
      · have h := if_f hc h
        refine lv_aload_n hx hb dX0_stuck_39 rfl (lv_at hl 0 rfl) ?_
        refine va_get (D := D) (ci := 0) (v := .ref (a1 0)) (C := RX0) (T := TX0) (N := 2) hx hb hts hinX0 hown hK.1 hP 0 rfl rfl 0 (by decide) lkf15 (fun _ h9 => h9) rfl dX0_stuck_40 ?_
        refine lv_iload hx hb dX0_stuck_43 (lv_at hl 6 rfl) ?_
        refine lv_iload_n hx hb dX0_stuck_45 rfl (lv_at hl 3 rfl) ?_
        refine lv_iload_n hx hb dX0_stuck_46 rfl (lv_at hl 1 rfl) ?_
        refine lv_iload_n hx hb dX0_stuck_47 rfl (lv_at hl 2 rfl) ?_
        obtain ⟨z1, hz1, h⟩ := bd_some h
        refine cR_V (As := [.int x6, .int x3, .int x1, .int x2]) (rest := []) ⟨hx, hb, hml, hown, hts⟩ (c_X6_mayBe l D cA a1 o1 x6 x3 x1 x2 z1 hz1) (cwV 4 hts gX0_stuck_X6_mayBe rfl rfl rfl hd_X6_mayBe ⟨(Nat.le_of_ble_eq_true rfl), (Nat.le_of_ble_eq_true rfl)⟩) (recvK hK hP 2 6 rfl rfl) hK hP [2, 3, 4, 5, 6, 7, 8] rfl rfl hl.1 rfl (Nat.le_of_ble_eq_true rfl) dX0_stuck_48 ⟨(Nat.le_of_ble_eq_true rfl), (Nat.le_of_ble_eq_true rfl)⟩ ?_
        refine lv_if_eq (tgt := 64) hx hb dX0_stuck_51 (by decide) (fun hc => ?_) (fun hc => ?_)
        · have h := if_t hc h
          obtain ⟨v2, ev2⟩ : ∃ y : Int32, y = x6 + (-1 : Int32) := ⟨_, rfl⟩
          refine lv_iinc (v := v2) (lv' := [(6, .int v2), (0, .ref (a0 0)), (1, .int x1), (2, .int x2), (3, .int x3), (4, .int x4), (5, .int x5)]) hx hb dX0_stuck_64 hl (k := 6) rfl (by rw [ev2]; rfl) (by decide) rfl (fun ls hl => ?_)
          have h := nm_ap ev2 h
          refine lv_goto (tgt := 34) hx hb dX0_stuck_67 (by decide) ?_
          exact ih x3 v2 ls (lv_sub hl [1, 2, 3, 4, 5, 6, 0] rfl) _ h K0
        · have h := if_f hc h
          refine lv_iload_n hx hb dX0_stuck_54 rfl (lv_at hl 3 rfl) ?_
          refine lv_iload hx hb dX0_stuck_55 (lv_at hl 6 rfl) ?_
          obtain ⟨z3, hz3, h⟩ := bd_some h
          refine cR_SN (As := [.int x6]) (rest := [.int x3]) ⟨hx, hb, hml, hown, hts⟩ (c_X7_bit l D cA  x6 z3 hz3) ⟨va_cnB 1 hts gX0_stuck_X7_bit_n39 rfl rfl rfl (hK.2 _ (List.mem_of_getElem? (i := 30) rfl) : va_Nw (Cond.methodLinkNest RX0 39 yX7_bit "TiedToTown") s) (hts (.initialized RX7) (List.mem_of_getElem? (i := 16) rfl)) hd_X7_bit.2 ⟨(Nat.le_of_ble_eq_true rfl), (Nat.le_of_ble_eq_true rfl)⟩, hts (.static yX7_bit) (List.mem_of_getElem? (i := 30) rfl), trivial⟩ hK hP [] rfl rfl hl.1 rfl (Nat.le_of_ble_eq_true rfl) dX0_stuck_57 ⟨(Nat.le_of_ble_eq_true rfl), (Nat.le_of_ble_eq_true rfl)⟩ ?_
          refine lv_iconst (v := (-1 : Int32)) hx hb dX0_stuck_60 (by decide) ?_
          refine lv_ixor hx hb dX0_stuck_61 ?_
          refine lv_iand hx hb dX0_stuck_62 ?_
          refine lv_topi (fun v4 ev4 => ?_)
          have h := nm_ap ev4 h
          refine lv_istore_n (lv' := [(3, .int v4), (0, .ref (a0 0)), (1, .int x1), (2, .int x2), (4, .int x4), (5, .int x5), (6, .int x6)]) hx hb dX0_stuck_63 rfl hl (by decide) rfl (fun ls hl => ?_)
          obtain ⟨v5, ev5⟩ : ∃ y : Int32, y = x6 + (-1 : Int32) := ⟨_, rfl⟩
          refine lv_iinc (v := v5) (lv' := [(6, .int v5), (3, .int v4), (0, .ref (a0 0)), (1, .int x1), (2, .int x2), (4, .int x4), (5, .int x5)]) hx hb dX0_stuck_64 hl (k := 6) rfl (by rw [ev5]; rfl) (by decide) rfl (fun ls hl => ?_)
          have h := nm_ap ev5 h
          refine lv_goto (tgt := 34) hx hb dX0_stuck_67 (by decide) ?_
          exact ih v4 v5 ls (lv_sub hl [2, 3, 4, 1, 5, 6, 0] rfl) _ h K0
  have LP14 : ∀ (x1 : Int32) (x2 : Int32) (n : Nat) (x3 : Int32) (x4 : Int32) (x5 : Int32) (ls : Array Slot) (_ : lv_has ls 7 [(0, .ref (a0 0)), (1, .int x1), (2, .int x2), (3, .int x3), (4, .int x4), (5, .int x5)]) (res : Int32) (_ : L_X0_stuck_14 x1 x2 o0 o1 n x3 x4 x5 = some res) (_ : (∀ (ls : Array Slot), lv_has ls 7 [(3, .int res)] → W p l e rmX0_stuck s m args below meth c s.heap [] 0 0 Q (F0 m 76 ls []))), W p l e rmX0_stuck s m args below meth c s.heap [] 0 0 Q (F0 m 14 ls []) := by
    intro x1 x2 n
    induction n with
    | zero =>
      intro x3 x4 x5 ls hl res h K0
      exact absurd h (fun q : (none : Option (Int32)) = some res => by cases q)
    | succ n ih =>
      intro x3 x4 x5 ls hl res h K0
      have h : L_X0_stuck_14_step x1 x2 o0 o1 (L_X0_stuck_14 x1 x2 o0 o1 n) x3 x4 x5 = some res := h
      unfold L_X0_stuck_14_step at h
      refine lv_iload hx hb dX0_stuck_14 (lv_at hl 5 rfl) ?_
      refine lv_bipush (v := (8 : Int32)) hx hb dX0_stuck_16 (by decide) ?_
      refine lv_icmp_ge (tgt := 76) hx hb dX0_stuck_18 (by decide) (fun hc => ?_) (fun hc => ?_)
      · have h := if_t hc h
        cases h
        exact K0 _ (lv_sub hl [3] rfl)
      · have h := if_f hc h
        refine lv_iload_n hx hb dX0_stuck_21 rfl (lv_at hl 3 rfl) ?_
        refine lv_iload hx hb dX0_stuck_22 (lv_at hl 4 rfl) ?_
        refine lv_icmp_eq (tgt := 76) hx hb dX0_stuck_24 (by decide) (fun hc => ?_) (fun hc => ?_)
        · have h := if_t hc h
          cases h
          exact K0 _ (lv_sub hl [3] rfl)
        · have h := if_f hc h
          refine lv_iload_n hx hb dX0_stuck_27 rfl (lv_at hl 3 rfl) ?_
          refine lv_istore (lv' := [(4, .int x3), (0, .ref (a0 0)), (1, .int x1), (2, .int x2), (3, .int x3), (5, .int x5)]) hx hb dX0_stuck_28 hl (by decide) rfl (fun ls hl => ?_)
          refine lv_bipush (v := (7 : Int32)) hx hb dX0_stuck_30 (by decide) ?_
          refine lv_istore (lv' := [(6, .int (7 : Int32)), (4, .int x3), (0, .ref (a0 0)), (1, .int x1), (2, .int x2), (3, .int x3), (5, .int x5)]) hx hb dX0_stuck_32 hl (by decide) rfl (fun ls hl => ?_)
          obtain ⟨z1, hz1, h⟩ := bd_some h
          refine LP34 x1 x2 x3 x5 512 x3 (7 : Int32) ls (lv_sub hl [2, 3, 4, 5, 1, 6, 0] rfl) _ hz1 ?_
          · intro ls hl
            obtain ⟨v2, ev2⟩ : ∃ y : Int32, y = x5 + (1 : Int32) := ⟨_, rfl⟩
            refine lv_iinc (v := v2) (lv' := [(5, .int v2), (0, .ref (a0 0)), (1, .int x1), (2, .int x2), (3, .int z1), (4, .int x3)]) hx hb dX0_stuck_70 hl (k := 5) rfl (by rw [ev2]; rfl) (by decide) rfl (fun ls hl => ?_)
            have h := nm_ap ev2 h
            refine lv_goto (tgt := 14) hx hb dX0_stuck_73 (by decide) ?_
            exact ih z1 x3 v2 ls (lv_sub hl [1, 2, 3, 4, 5, 0] rfl) _ h K0
  refine lv_aload_n hx hb dX0_stuck_0 rfl (lv_at hl 0 rfl) ?_
  refine va_get (D := D) (ci := 0) (v := .ref (a1 0)) (C := RX0) (T := TX0) (N := 2) hx hb hts hinX0 hown hK.1 hP 0 rfl rfl 0 (by decide) lkf15 (fun _ h9 => h9) rfl dX0_stuck_1 ?_
  refine va_getN (D := D) (ci := 6) (v := .int (o1.1 10)) (C := RX6) (T := TX6) (N := 12) hx hb hts hinX6 hown hK.1 hP 2 rfl rfl 10 (by decide) lkf32 (fun _ h9 => h9) rfl dX0_stuck_4 ?_
  refine lv_topi (fun v1 ev1 => ?_)
  have h := nm_ap ev1 h
  refine lv_istore_n (lv' := [(3, .int v1), (0, .ref (a0 0)), (1, .int x1), (2, .int x2)]) hx hb dX0_stuck_7 rfl hl (by decide) rfl (fun ls hl => ?_)
  refine lv_iconst (v := (0 : Int32)) hx hb dX0_stuck_8 (by decide) ?_
  refine lv_istore (lv' := [(4, .int (0 : Int32)), (3, .int v1), (0, .ref (a0 0)), (1, .int x1), (2, .int x2)]) hx hb dX0_stuck_9 hl (by decide) rfl (fun ls hl => ?_)
  refine lv_iconst (v := (0 : Int32)) hx hb dX0_stuck_11 (by decide) ?_
  refine lv_istore (lv' := [(5, .int (0 : Int32)), (4, .int (0 : Int32)), (3, .int v1), (0, .ref (a0 0)), (1, .int x1), (2, .int x2)]) hx hb dX0_stuck_12 hl (by decide) rfl (fun ls hl => ?_)
  obtain ⟨z2, hz2, h⟩ := bd_some h
  refine LP14 x1 x2 512 v1 (0 : Int32) (0 : Int32) ls (lv_sub hl [3, 4, 5, 2, 1, 0] rfl) _ hz2 ?_
  · intro ls hl
    refine lv_iload_n hx hb dX0_stuck_76 rfl (lv_at hl 0 rfl) ?_
    cases h
    exact hend _ _ dX0_stuck_77
abbrev rmX0_stuckToday : Room := ({ frames := 4, cells := 0, slots := 0, locals := 96 } : Room)
set_option maxHeartbeats 4000000 in
set_option maxRecDepth 100000 in
theorem c_X0_stuckToday (l : Launch) (D : va_G) (cA : ClassId) (a0 : (Nat → Nat)) (o0 : Ob) (a1 : (Nat → Nat)) (o1 : Ob) (r : Int32) (h : f_X0_stuckToday o0 o1 = some r) : ConR l yX0_stuckToday wsX0_stuckToday rmX0_stuckToday D cA [.ref (a0 0)] (wX0 cA a0 (a1 0) o0 ++ wX6 cA a1 o1) r := by
  refine ConR.enter (cc := cX0_stuckToday) (maxL := 1) (by decide) rfl (Nat.le_of_ble_eq_true rfl) ?_
  intro p e s m args below meth c Q hx hb hml hown hts hK hP  hend ls hl
  have hl : lv_has ls 1 [(0, .ref (a0 0))] := hl
  unfold f_X0_stuckToday at h
  have lkf15 := hts (.fieldLink RX0 15 "TiedToTown$Outlook" "town" "LTiedToTown$Town;") (List.mem_of_getElem? (i := 1) rfl)
  have hinX0 : ∀ w ∈ wsX00, w ∈ wsX0_stuckToday := fun w h => List.mem_cons_of_mem _ (List.mem_append_left _ (List.mem_append_right _ h))
  have lkf19 := va_Nw.use (w := Cond.fieldLinkNest RX0 19 "TiedToTown$Town" "day" "I" "TiedToTown") rfl (A := args) (hK.2 _ (List.mem_of_getElem? (i := 21) rfl))
  have hinX6 : ∀ w ∈ wsX60, w ∈ wsX0_stuckToday := fun w h => List.mem_cons_of_mem _ (List.mem_append_right _ h)
  have lkf25 := va_Nw.use (w := Cond.fieldLinkNest RX0 25 "TiedToTown$Town" "alive" "I" "TiedToTown") rfl (A := args) (hK.2 _ (List.mem_of_getElem? (i := 12) rfl))
  refine lv_aload_n hx hb dX0_stuckToday_0 rfl (lv_at hl 0 rfl) ?_
  refine lv_aload_n hx hb dX0_stuckToday_1 rfl (lv_at hl 0 rfl) ?_
  refine va_get (D := D) (ci := 0) (v := .ref (a1 0)) (C := RX0) (T := TX0) (N := 2) hx hb hts hinX0 hown hK.1 hP 0 rfl rfl 0 (by decide) lkf15 (fun _ h9 => h9) rfl dX0_stuckToday_2 ?_
  refine va_getN (D := D) (ci := 6) (v := .int (o1.1 11)) (C := RX6) (T := TX6) (N := 12) hx hb hts hinX6 hown hK.1 hP 2 rfl rfl 11 (by decide) lkf19 (fun _ h9 => h9) rfl dX0_stuckToday_5 ?_
  refine lv_aload_n hx hb dX0_stuckToday_8 rfl (lv_at hl 0 rfl) ?_
  refine va_get (D := D) (ci := 0) (v := .ref (a1 0)) (C := RX0) (T := TX0) (N := 2) hx hb hts hinX0 hown hK.1 hP 0 rfl rfl 0 (by decide) lkf15 (fun _ h9 => h9) rfl dX0_stuckToday_9 ?_
  refine va_getN (D := D) (ci := 6) (v := .int (o1.1 7)) (C := RX6) (T := TX6) (N := 12) hx hb hts hinX6 hown hK.1 hP 2 rfl rfl 7 (by decide) lkf25 (fun _ h9 => h9) rfl dX0_stuckToday_12 ?_
  obtain ⟨z1, hz1, h⟩ := bd_some h
  refine cR_V (As := [.int (o1.1 11), .int (o1.1 7)]) (rest := []) ⟨hx, hb, hml, hown, hts⟩ (c_X0_stuck l D cA a0 o0 a1 o1 (o1.1 11) (o1.1 7) z1 hz1) (cwV 2 hts gX0_stuckToday_X0_stuck rfl rfl rfl hd_X0_stuck ⟨(Nat.le_of_ble_eq_true rfl), (Nat.le_of_ble_eq_true rfl)⟩) (recvK hK hP 0 0 rfl rfl) hK hP [0, 1, 2, 3, 4, 5, 6, 7, 8] rfl rfl hl.1 rfl (Nat.le_of_ble_eq_true rfl) dX0_stuckToday_15 ⟨(Nat.le_of_ble_eq_true rfl), (Nat.le_of_ble_eq_true rfl)⟩ ?_
  cases h
  exact hend _ _ dX0_stuckToday_18
abbrev rmX0_stuckForEver : Room := ({ frames := 4, cells := 0, slots := 0, locals := 96 } : Room)
set_option maxHeartbeats 4000000 in
set_option maxRecDepth 100000 in
theorem c_X0_stuckForEver (l : Launch) (D : va_G) (cA : ClassId) (a0 : (Nat → Nat)) (o0 : Ob) (a1 : (Nat → Nat)) (o1 : Ob) (x1 : Int32) (r : Int32) (h : f_X0_stuckForEver o0 o1 x1 = some r) : ConR l yX0_stuckForEver wsX0_stuckForEver rmX0_stuckForEver D cA [.ref (a0 0), .int x1] (wX0 cA a0 (a1 0) o0 ++ wX6 cA a1 o1) r := by
  refine ConR.enter (cc := cX0_stuckForEver) (maxL := 2) (by decide) rfl (Nat.le_of_ble_eq_true rfl) ?_
  intro p e s m args below meth c Q hx hb hml hown hts hK hP  hend ls hl
  have hl : lv_has ls 2 [(0, .ref (a0 0)), (1, .int x1)] := hl
  unfold f_X0_stuckForEver at h
  refine lv_aload_n hx hb dX0_stuckForEver_0 rfl (lv_at hl 0 rfl) ?_
  refine lv_bipush (v := (99 : Int32)) hx hb dX0_stuckForEver_1 (by decide) ?_
  refine lv_iload_n hx hb dX0_stuckForEver_3 rfl (lv_at hl 1 rfl) ?_
  obtain ⟨z1, hz1, h⟩ := bd_some h
  refine cR_V (As := [.int (99 : Int32), .int x1]) (rest := []) ⟨hx, hb, hml, hown, hts⟩ (c_X0_stuck l D cA a0 o0 a1 o1 (99 : Int32) x1 z1 hz1) (cwV 2 hts gX0_stuckForEver_X0_stuck rfl rfl rfl hd_X0_stuck ⟨(Nat.le_of_ble_eq_true rfl), (Nat.le_of_ble_eq_true rfl)⟩) (recvK hK hP 0 0 rfl rfl) hK hP [0, 1, 2, 3, 4, 5, 6, 7, 8] rfl rfl hl.1 rfl (Nat.le_of_ble_eq_true rfl) dX0_stuckForEver_4 ⟨(Nat.le_of_ble_eq_true rfl), (Nat.le_of_ble_eq_true rfl)⟩ ?_
  cases h
  exact hend _ _ dX0_stuckForEver_7
abbrev rmX0_withAhead : Room := ({ frames := 2, cells := 0, slots := 0, locals := 46 } : Room)
set_option maxHeartbeats 4000000 in
set_option maxRecDepth 100000 in
theorem c_X0_withAhead (l : Launch) (D : va_G) (cA : ClassId) (a0 : (Nat → Nat)) (o0 : Ob) (a1 : (Nat → Nat)) (o1 : Ob) (x1 : Int32) (r : Int32) (h : f_X0_withAhead o0 o1 x1 = some r) : ConR l yX0_withAhead wsX0_withAhead rmX0_withAhead D cA [.ref (a0 0), .int x1] (wX0 cA a0 (a1 0) o0 ++ wX6 cA a1 o1) r := by
  refine ConR.enter (cc := cX0_withAhead) (maxL := 6) (by decide) rfl (Nat.le_of_ble_eq_true rfl) ?_
  intro p e s m args below meth c Q hx hb hml hown hts hK hP  hend ls hl
  have hl : lv_has ls 6 [(0, .ref (a0 0)), (1, .int x1)] := hl
  unfold f_X0_withAhead at h
  have lkf15 := hts (.fieldLink RX0 15 "TiedToTown$Outlook" "town" "LTiedToTown$Town;") (List.mem_of_getElem? (i := 1) rfl)
  have hinX0 : ∀ w ∈ wsX00, w ∈ wsX0_withAhead := fun w h => List.mem_cons_of_mem _ (List.mem_append_left _ (List.mem_append_right _ h))
  have lkf32 := va_Nw.use (w := Cond.fieldLinkNest RX0 32 "TiedToTown$Town" "tied" "I" "TiedToTown") rfl (A := args) (hK.2 _ (List.mem_of_getElem? (i := 18) rfl))
  have hinX6 : ∀ w ∈ wsX60, w ∈ wsX0_withAhead := fun w h => List.mem_cons_of_mem _ (List.mem_append_right _ h)
  have LP24 : ∀ (x3 : Int32) (x4 : Int32) (n : Nat) (x2 : Int32) (x5 : Int32) (ls : Array Slot) (_ : lv_has ls 6 [(0, .ref (a0 0)), (2, .int x2), (3, .int x3), (4, .int x4), (5, .int x5)]) (res : Int32) (_ : L_X0_withAhead_24 x3 x4 o0 o1 n x2 x5 = some res) (_ : (∀ (ls : Array Slot), lv_has ls 6 [(0, .ref (a0 0)), (2, .int res), (3, .int x3), (4, .int x4)] → W p l e rmX0_withAhead s m args below meth c s.heap [] 0 0 Q (F0 m 65 ls []))), W p l e rmX0_withAhead s m args below meth c s.heap [] 0 0 Q (F0 m 24 ls []) := by
    intro x3 x4 n
    induction n with
    | zero =>
      intro x2 x5 ls hl res h K0
      exact absurd h (fun q : (none : Option (Int32)) = some res => by cases q)
    | succ n ih =>
      intro x2 x5 ls hl res h K0
      have h : L_X0_withAhead_24_step x3 x4 o0 o1 (L_X0_withAhead_24 x3 x4 o0 o1 n) x2 x5 = some res := h
      unfold L_X0_withAhead_24_step at h
      refine lv_iload hx hb dX0_withAhead_24 (lv_at hl 4 rfl) ?_
      refine lv_bipush (v := (8 : Int32)) hx hb dX0_withAhead_26 (by decide) ?_
      refine lv_icmp_ge (tgt := 65) hx hb dX0_withAhead_28 (by decide) (fun hc => ?_) (fun hc => ?_)
      · have h := if_t hc h
        cases h
        exact K0 _ (lv_sub hl [0, 1, 2, 3] rfl)
      · have h := if_f hc h
        refine lv_iload_n hx hb dX0_withAhead_31 rfl (lv_at hl 1 rfl) ?_
        refine lv_iload hx hb dX0_withAhead_32 (lv_at hl 4 rfl) ?_
        obtain ⟨z1, hz1, h⟩ := bd_some h
        refine cR_SN (As := [.int x2, .int x5]) (rest := []) ⟨hx, hb, hml, hown, hts⟩ (c_X7_has l D cA  x2 x5 z1 hz1) ⟨va_cnB 2 hts gX0_withAhead_X7_has_n43 rfl rfl rfl (hK.2 _ (List.mem_of_getElem? (i := 31) rfl) : va_Nw (Cond.methodLinkNest RX0 43 yX7_has "TiedToTown") s) (hts (.initialized RX7) (List.mem_of_getElem? (i := 3) rfl)) hd_X7_has.2 ⟨(Nat.le_of_ble_eq_true rfl), (Nat.le_of_ble_eq_true rfl)⟩, hts (.static yX7_has) (List.mem_of_getElem? (i := 2) rfl), trivial⟩ hK hP [] rfl rfl hl.1 rfl (Nat.le_of_ble_eq_true rfl) dX0_withAhead_34 ⟨(Nat.le_of_ble_eq_true rfl), (Nat.le_of_ble_eq_true rfl)⟩ ?_
        refine lv_if_eq (tgt := 59) hx hb dX0_withAhead_37 (by decide) (fun hc => ?_) (fun hc => ?_)
        · have h := if_t hc h
          obtain ⟨v2, ev2⟩ : ∃ y : Int32, y = x5 + (1 : Int32) := ⟨_, rfl⟩
          refine lv_iinc (v := v2) (lv' := [(5, .int v2), (0, .ref (a0 0)), (2, .int x2), (3, .int x3), (4, .int x4)]) hx hb dX0_withAhead_59 hl (k := 4) rfl (by rw [ev2]; rfl) (by decide) rfl (fun ls hl => ?_)
          have h := nm_ap ev2 h
          refine lv_goto (tgt := 24) hx hb dX0_withAhead_62 (by decide) ?_
          exact ih x2 v2 ls (lv_sub hl [1, 2, 3, 4, 0] rfl) _ h K0
        · have h := if_f hc h
          refine lv_iload_n hx hb dX0_withAhead_40 rfl (lv_at hl 1 rfl) ?_
          refine lv_aload_n hx hb dX0_withAhead_41 rfl (lv_at hl 0 rfl) ?_
          refine va_get (D := D) (ci := 0) (v := .ref (a1 0)) (C := RX0) (T := TX0) (N := 2) hx hb hts hinX0 hown hK.1 hP 0 rfl rfl 0 (by decide) lkf15 (fun _ h9 => h9) rfl dX0_withAhead_42 ?_
          refine lv_iload hx hb dX0_withAhead_45 (lv_at hl 4 rfl) ?_
          refine lv_aload_n hx hb dX0_withAhead_47 rfl (lv_at hl 0 rfl) ?_
          refine va_get (D := D) (ci := 0) (v := .ref (a1 0)) (C := RX0) (T := TX0) (N := 2) hx hb hts hinX0 hown hK.1 hP 0 rfl rfl 0 (by decide) lkf15 (fun _ h9 => h9) rfl dX0_withAhead_48 ?_
          refine va_getN (D := D) (ci := 6) (v := .int (o1.1 10)) (C := RX6) (T := TX6) (N := 12) hx hb hts hinX6 hown hK.1 hP 2 rfl rfl 10 (by decide) lkf32 (fun _ h9 => h9) rfl dX0_withAhead_51 ?_
          obtain ⟨z3, hz3, h⟩ := bd_some h
          refine cR_V (As := [.int x5, .int (o1.1 10)]) (rest := [.int x2]) ⟨hx, hb, hml, hown, hts⟩ (c_X6_inTheWay l D cA a1 o1 x5 (o1.1 10) z3 hz3) (cwV 2 hts gX0_withAhead_X6_inTheWay rfl rfl rfl hd_X6_inTheWay ⟨(Nat.le_of_ble_eq_true rfl), (Nat.le_of_ble_eq_true rfl)⟩) (recvK hK hP 2 6 rfl rfl) hK hP [2, 3, 4, 5, 6, 7, 8] rfl rfl hl.1 rfl (Nat.le_of_ble_eq_true rfl) dX0_withAhead_54 ⟨(Nat.le_of_ble_eq_true rfl), (Nat.le_of_ble_eq_true rfl)⟩ ?_
          refine lv_ior hx hb dX0_withAhead_57 ?_
          refine lv_topi (fun v4 ev4 => ?_)
          have h := nm_ap ev4 h
          refine lv_istore_n (lv' := [(2, .int v4), (0, .ref (a0 0)), (3, .int x3), (4, .int x4), (5, .int x5)]) hx hb dX0_withAhead_58 rfl hl (by decide) rfl (fun ls hl => ?_)
          obtain ⟨v5, ev5⟩ : ∃ y : Int32, y = x5 + (1 : Int32) := ⟨_, rfl⟩
          refine lv_iinc (v := v5) (lv' := [(5, .int v5), (2, .int v4), (0, .ref (a0 0)), (3, .int x3), (4, .int x4)]) hx hb dX0_withAhead_59 hl (k := 4) rfl (by rw [ev5]; rfl) (by decide) rfl (fun ls hl => ?_)
          have h := nm_ap ev5 h
          refine lv_goto (tgt := 24) hx hb dX0_withAhead_62 (by decide) ?_
          exact ih v4 v5 ls (lv_sub hl [2, 1, 3, 4, 0] rfl) _ h K0
  have LP7 : ∀ (n : Nat) (x2 : Int32) (x3 : Int32) (x4 : Int32) (ls : Array Slot) (_ : lv_has ls 6 [(0, .ref (a0 0)), (2, .int x2), (3, .int x3), (4, .int x4)]) (res : Int32) (_ : L_X0_withAhead_7 o0 o1 n x2 x3 x4 = some res) (_ : (∀ (ls : Array Slot), lv_has ls 6 [(2, .int res)] → W p l e rmX0_withAhead s m args below meth c s.heap [] 0 0 Q (F0 m 71 ls []))), W p l e rmX0_withAhead s m args below meth c s.heap [] 0 0 Q (F0 m 7 ls []) := by
    intro n
    induction n with
    | zero =>
      intro x2 x3 x4 ls hl res h K0
      exact absurd h (fun q : (none : Option (Int32)) = some res => by cases q)
    | succ n ih =>
      intro x2 x3 x4 ls hl res h K0
      have h : L_X0_withAhead_7_step o0 o1 (L_X0_withAhead_7 o0 o1 n) x2 x3 x4 = some res := h
      unfold L_X0_withAhead_7_step at h
      refine lv_iload hx hb dX0_withAhead_7 (lv_at hl 3 rfl) ?_
      refine lv_bipush (v := (8 : Int32)) hx hb dX0_withAhead_9 (by decide) ?_
      refine lv_icmp_ge (tgt := 71) hx hb dX0_withAhead_11 (by decide) (fun hc => ?_) (fun hc => ?_)
      · have h := if_t hc h
        cases h
        exact K0 _ (lv_sub hl [1] rfl)
      · have h := if_f hc h
        refine lv_iload_n hx hb dX0_withAhead_14 rfl (lv_at hl 1 rfl) ?_
        refine lv_iload_n hx hb dX0_withAhead_15 rfl (lv_at hl 2 rfl) ?_
        refine lv_icmp_eq (tgt := 71) hx hb dX0_withAhead_16 (by decide) (fun hc => ?_) (fun hc => ?_)
        · have h := if_t hc h
          cases h
          exact K0 _ (lv_sub hl [1] rfl)
        · have h := if_f hc h
          refine lv_iload_n hx hb dX0_withAhead_19 rfl (lv_at hl 1 rfl) ?_
          refine lv_istore_n (lv' := [(3, .int x2), (0, .ref (a0 0)), (2, .int x2), (4, .int x4)]) hx hb dX0_withAhead_20 rfl hl (by decide) rfl (fun ls hl => ?_)
          refine lv_iconst (v := (0 : Int32)) hx hb dX0_withAhead_21 (by decide) ?_
          refine lv_istore (lv' := [(5, .int (0 : Int32)), (3, .int x2), (0, .ref (a0 0)), (2, .int x2), (4, .int x4)]) hx hb dX0_withAhead_22 hl (by decide) rfl (fun ls hl => ?_)
          obtain ⟨z1, hz1, h⟩ := bd_some h
          refine LP24 x2 x4 512 x2 (0 : Int32) ls (lv_sub hl [2, 3, 1, 4, 0] rfl) _ hz1 ?_
          · intro ls hl
            obtain ⟨v2, ev2⟩ : ∃ y : Int32, y = x4 + (1 : Int32) := ⟨_, rfl⟩
            refine lv_iinc (v := v2) (lv' := [(4, .int v2), (0, .ref (a0 0)), (2, .int z1), (3, .int x2)]) hx hb dX0_withAhead_65 hl (k := 3) rfl (by rw [ev2]; rfl) (by decide) rfl (fun ls hl => ?_)
            have h := nm_ap ev2 h
            refine lv_goto (tgt := 7) hx hb dX0_withAhead_68 (by decide) ?_
            exact ih z1 x2 v2 ls (lv_sub hl [1, 2, 3, 0] rfl) _ h K0
  refine lv_iload_n hx hb dX0_withAhead_0 rfl (lv_at hl 1 rfl) ?_
  refine lv_istore_n (lv' := [(2, .int x1), (0, .ref (a0 0)), (1, .int x1)]) hx hb dX0_withAhead_1 rfl hl (by decide) rfl (fun ls hl => ?_)
  refine lv_iconst (v := (0 : Int32)) hx hb dX0_withAhead_2 (by decide) ?_
  refine lv_istore_n (lv' := [(3, .int (0 : Int32)), (2, .int x1), (0, .ref (a0 0)), (1, .int x1)]) hx hb dX0_withAhead_3 rfl hl (by decide) rfl (fun ls hl => ?_)
  refine lv_iconst (v := (0 : Int32)) hx hb dX0_withAhead_4 (by decide) ?_
  refine lv_istore (lv' := [(4, .int (0 : Int32)), (3, .int (0 : Int32)), (2, .int x1), (0, .ref (a0 0)), (1, .int x1)]) hx hb dX0_withAhead_5 hl (by decide) rfl (fun ls hl => ?_)
  obtain ⟨z1, hz1, h⟩ := bd_some h
  refine LP7 512 x1 (0 : Int32) (0 : Int32) ls (lv_sub hl [3, 2, 1, 0] rfl) _ hz1 ?_
  · intro ls hl
    refine lv_iload_n hx hb dX0_withAhead_71 rfl (lv_at hl 0 rfl) ?_
    cases h
    exact hend _ _ dX0_withAhead_72
abbrev rmX6_above : Room := ({ frames := 1, cells := 0, slots := 0, locals := 21 } : Room)
set_option maxHeartbeats 4000000 in
set_option maxRecDepth 100000 in
theorem c_X6_above (l : Launch) (D : va_G) (cA : ClassId) (a0 : (Nat → Nat)) (o0 : Ob) (x1 : Int32) (r : Int32) (h : f_X6_above o0 x1 = some r) : ConR l yX6_above wsX6_above rmX6_above D cA [.ref (a0 0), .int x1] (wX6 cA a0 o0) r := by
  refine ConR.enter (cc := cX6_above) (maxL := 4) (by decide) rfl (Nat.le_of_ble_eq_true rfl) ?_
  intro p e s m args below meth c Q hx hb hml hown hts hK hP  hend ls hl
  have hl : lv_has ls 4 [(0, .ref (a0 0)), (1, .int x1)] := hl
  unfold f_X6_above at h
  have lkf43 := hts (.fieldLink RX6 43 "TiedToTown$Town" "tied" "I") (List.mem_of_getElem? (i := 1) rfl)
  have hinX6 : ∀ w ∈ wsX60, w ∈ wsX6_above := fun w h => List.mem_cons_of_mem _ (List.mem_append_right _ h)
  have lkf21 := hts (.fieldLink RX6 21 "TiedToTown$Town" "through" "[I") (List.mem_of_getElem? (i := 2) rfl)
  have LP4 : ∀ (x1 : Int32) (n : Nat) (x2 : Int32) (x3 : Int32) (ls : Array Slot) (_ : lv_has ls 4 [(0, .ref (a0 0)), (1, .int x1), (2, .int x2), (3, .int x3)]) (res : Int32) (_ : L_X6_above_4 x1 o0 n x2 x3 = some res) (_ : (∀ (ls : Array Slot), lv_has ls 4 [(2, .int res)] → W p l e rmX6_above s m args below meth c s.heap [] 0 0 Q (F0 m 50 ls []))), W p l e rmX6_above s m args below meth c s.heap [] 0 0 Q (F0 m 4 ls []) := by
    intro x1 n
    induction n with
    | zero =>
      intro x2 x3 ls hl res h K0
      exact absurd h (fun q : (none : Option (Int32)) = some res => by cases q)
    | succ n ih =>
      intro x2 x3 ls hl res h K0
      have h : L_X6_above_4_step x1 o0 (L_X6_above_4 x1 o0 n) x2 x3 = some res := h
      unfold L_X6_above_4_step at h
      refine lv_iload_n hx hb dX6_above_4 rfl (lv_at hl 3 rfl) ?_
      refine lv_bipush (v := (8 : Int32)) hx hb dX6_above_5 (by decide) ?_
      refine lv_icmp_ge (tgt := 50) hx hb dX6_above_7 (by decide) (fun hc => ?_) (fun hc => ?_)
      · have h := if_t hc h
        cases h
        exact K0 _ (lv_sub hl [2] rfl)
      · have h := if_f hc h
        refine lv_aload_n hx hb dX6_above_10 rfl (lv_at hl 0 rfl) ?_
        refine va_get (D := D) (ci := 6) (v := .int (o0.1 10)) (C := RX6) (T := TX6) (N := 12) hx hb hts hinX6 hown hK.1 hP 0 rfl rfl 10 (by decide) lkf43 (fun _ h9 => h9) rfl dX6_above_11 ?_
        refine lv_iload_n hx hb dX6_above_14 rfl (lv_at hl 3 rfl) ?_
        obtain ⟨z1, hz1, h⟩ := bd_some h
        refine cR_SN (As := [.int (o0.1 10), .int x3]) (rest := []) ⟨hx, hb, hml, hown, hts⟩ (c_X7_has l D cA  (o0.1 10) x3 z1 hz1) ⟨va_cnB 2 hts gX6_above_X7_has_n64 rfl rfl rfl (hK.2 _ (List.mem_of_getElem? (i := 28) rfl) : va_Nw (Cond.methodLinkNest RX6 64 yX7_has "TiedToTown") s) (hts (.initialized RX7) (List.mem_of_getElem? (i := 4) rfl)) hd_X7_has.2 ⟨(Nat.le_of_ble_eq_true rfl), (Nat.le_of_ble_eq_true rfl)⟩, hts (.static yX7_has) (List.mem_of_getElem? (i := 3) rfl), trivial⟩ hK hP [] rfl rfl hl.1 rfl (Nat.le_of_ble_eq_true rfl) dX6_above_15 ⟨(Nat.le_of_ble_eq_true rfl), (Nat.le_of_ble_eq_true rfl)⟩ ?_
        refine lv_if_eq (tgt := 44) hx hb dX6_above_18 (by decide) (fun hc => ?_) (fun hc => ?_)
        · have h := if_t hc h
          obtain ⟨v2, ev2⟩ : ∃ y : Int32, y = x3 + (1 : Int32) := ⟨_, rfl⟩
          refine lv_iinc (v := v2) (lv' := [(3, .int v2), (0, .ref (a0 0)), (1, .int x1), (2, .int x2)]) hx hb dX6_above_44 hl (k := 3) rfl (by rw [ev2]; rfl) (by decide) rfl (fun ls hl => ?_)
          have h := nm_ap ev2 h
          refine lv_goto (tgt := 4) hx hb dX6_above_47 (by decide) ?_
          exact ih x2 v2 ls (lv_sub hl [1, 2, 3, 0] rfl) _ h K0
        · have h := if_f hc h
          refine lv_aload_n hx hb dX6_above_21 rfl (lv_at hl 0 rfl) ?_
          refine va_get (D := D) (ci := 6) (v := .ref (a0 4)) (C := RX6) (T := TX6) (N := 12) hx hb hts hinX6 hown hK.1 hP 0 rfl rfl 3 (by decide) lkf21 (fun _ h9 => h9) rfl dX6_above_22 ?_
          refine lv_iload_n hx hb dX6_above_25 rfl (lv_at hl 3 rfl) ?_
          obtain ⟨hi3, h⟩ := gd_some h
          refine iald (q0 := 0) (t0 := 0) (j := x3.toNatClampNeg) hx hb hK hP 4 rfl rfl (ck_in hi3) dX6_above_26 ?_
          refine lv_iload_n hx hb dX6_above_27 rfl (lv_at hl 2 rfl) ?_
          refine lv_iload_n hx hb dX6_above_28 rfl (lv_at hl 1 rfl) ?_
          obtain ⟨z4, hz4, h⟩ := bd_some h
          refine cR_SN (As := [.int x1]) (rest := [.int x2, .int (o0.2 3 x3.toNatClampNeg)]) ⟨hx, hb, hml, hown, hts⟩ (c_X7_bit l D cA  x1 z4 hz4) ⟨va_cnB 1 hts gX6_above_X7_bit_n49 rfl rfl rfl (hK.2 _ (List.mem_of_getElem? (i := 27) rfl) : va_Nw (Cond.methodLinkNest RX6 49 yX7_bit "TiedToTown") s) (hts (.initialized RX7) (List.mem_of_getElem? (i := 4) rfl)) hd_X7_bit.2 ⟨(Nat.le_of_ble_eq_true rfl), (Nat.le_of_ble_eq_true rfl)⟩, hts (.static yX7_bit) (List.mem_of_getElem? (i := 6) rfl), trivial⟩ hK hP [] rfl rfl hl.1 rfl (Nat.le_of_ble_eq_true rfl) dX6_above_29 ⟨(Nat.le_of_ble_eq_true rfl), (Nat.le_of_ble_eq_true rfl)⟩ ?_
          refine lv_ior hx hb dX6_above_32 ?_
          refine lv_iand hx hb dX6_above_33 ?_
          refine lv_if_eq (tgt := 44) hx hb dX6_above_34 (by decide) (fun hc => ?_) (fun hc => ?_)
          · have h := if_t hc h
            obtain ⟨v5, ev5⟩ : ∃ y : Int32, y = x3 + (1 : Int32) := ⟨_, rfl⟩
            refine lv_iinc (v := v5) (lv' := [(3, .int v5), (0, .ref (a0 0)), (1, .int x1), (2, .int x2)]) hx hb dX6_above_44 hl (k := 3) rfl (by rw [ev5]; rfl) (by decide) rfl (fun ls hl => ?_)
            have h := nm_ap ev5 h
            refine lv_goto (tgt := 4) hx hb dX6_above_47 (by decide) ?_
            exact ih x2 v5 ls (lv_sub hl [1, 2, 3, 0] rfl) _ h K0
          · have h := if_f hc h
            refine lv_iload_n hx hb dX6_above_37 rfl (lv_at hl 2 rfl) ?_
            refine lv_iload_n hx hb dX6_above_38 rfl (lv_at hl 3 rfl) ?_
            obtain ⟨z6, hz6, h⟩ := bd_some h
            refine cR_SN (As := [.int x3]) (rest := [.int x2]) ⟨hx, hb, hml, hown, hts⟩ (c_X7_bit l D cA  x3 z6 hz6) ⟨va_cnB 1 hts gX6_above_X7_bit_n49 rfl rfl rfl (hK.2 _ (List.mem_of_getElem? (i := 27) rfl) : va_Nw (Cond.methodLinkNest RX6 49 yX7_bit "TiedToTown") s) (hts (.initialized RX7) (List.mem_of_getElem? (i := 4) rfl)) hd_X7_bit.2 ⟨(Nat.le_of_ble_eq_true rfl), (Nat.le_of_ble_eq_true rfl)⟩, hts (.static yX7_bit) (List.mem_of_getElem? (i := 6) rfl), trivial⟩ hK hP [] rfl rfl hl.1 rfl (Nat.le_of_ble_eq_true rfl) dX6_above_39 ⟨(Nat.le_of_ble_eq_true rfl), (Nat.le_of_ble_eq_true rfl)⟩ ?_
            refine lv_ior hx hb dX6_above_42 ?_
            refine lv_topi (fun v7 ev7 => ?_)
            have h := nm_ap ev7 h
            refine lv_istore_n (lv' := [(2, .int v7), (0, .ref (a0 0)), (1, .int x1), (3, .int x3)]) hx hb dX6_above_43 rfl hl (by decide) rfl (fun ls hl => ?_)
            obtain ⟨v8, ev8⟩ : ∃ y : Int32, y = x3 + (1 : Int32) := ⟨_, rfl⟩
            refine lv_iinc (v := v8) (lv' := [(3, .int v8), (2, .int v7), (0, .ref (a0 0)), (1, .int x1)]) hx hb dX6_above_44 hl (k := 3) rfl (by rw [ev8]; rfl) (by decide) rfl (fun ls hl => ?_)
            have h := nm_ap ev8 h
            refine lv_goto (tgt := 4) hx hb dX6_above_47 (by decide) ?_
            exact ih v7 v8 ls (lv_sub hl [2, 3, 1, 0] rfl) _ h K0
  refine lv_iconst (v := (0 : Int32)) hx hb dX6_above_0 (by decide) ?_
  refine lv_istore_n (lv' := [(2, .int (0 : Int32)), (0, .ref (a0 0)), (1, .int x1)]) hx hb dX6_above_1 rfl hl (by decide) rfl (fun ls hl => ?_)
  refine lv_iconst (v := (0 : Int32)) hx hb dX6_above_2 (by decide) ?_
  refine lv_istore_n (lv' := [(3, .int (0 : Int32)), (2, .int (0 : Int32)), (0, .ref (a0 0)), (1, .int x1)]) hx hb dX6_above_3 rfl hl (by decide) rfl (fun ls hl => ?_)
  obtain ⟨z1, hz1, h⟩ := bd_some h
  refine LP4 x1 512 (0 : Int32) (0 : Int32) ls (lv_sub hl [2, 3, 1, 0] rfl) _ hz1 ?_
  · intro ls hl
    refine lv_iload_n hx hb dX6_above_50 rfl (lv_at hl 0 rfl) ?_
    cases h
    exact hend _ _ dX6_above_51
abbrev rmX0_withAbove : Room := ({ frames := 2, cells := 0, slots := 0, locals := 44 } : Room)
set_option maxHeartbeats 4000000 in
set_option maxRecDepth 100000 in
theorem c_X0_withAbove (l : Launch) (D : va_G) (cA : ClassId) (a0 : (Nat → Nat)) (o0 : Ob) (a1 : (Nat → Nat)) (o1 : Ob) (x1 : Int32) (r : Int32) (h : f_X0_withAbove o0 o1 x1 = some r) : ConR l yX0_withAbove wsX0_withAbove rmX0_withAbove D cA [.ref (a0 0), .int x1] (wX0 cA a0 (a1 0) o0 ++ wX6 cA a1 o1) r := by
  refine ConR.enter (cc := cX0_withAbove) (maxL := 4) (by decide) rfl (Nat.le_of_ble_eq_true rfl) ?_
  intro p e s m args below meth c Q hx hb hml hown hts hK hP  hend ls hl
  have hl : lv_has ls 4 [(0, .ref (a0 0)), (1, .int x1)] := hl
  unfold f_X0_withAbove at h
  have lkf15 := hts (.fieldLink RX0 15 "TiedToTown$Outlook" "town" "LTiedToTown$Town;") (List.mem_of_getElem? (i := 1) rfl)
  have hinX0 : ∀ w ∈ wsX00, w ∈ wsX0_withAbove := fun w h => List.mem_cons_of_mem _ (List.mem_append_left _ (List.mem_append_right _ h))
  have LP4 : ∀ (x1 : Int32) (n : Nat) (x2 : Int32) (x3 : Int32) (ls : Array Slot) (_ : lv_has ls 4 [(0, .ref (a0 0)), (1, .int x1), (2, .int x2), (3, .int x3)]) (res : Int32) (_ : L_X0_withAbove_4 x1 o0 o1 n x2 x3 = some res) (_ : (∀ (ls : Array Slot), lv_has ls 4 [(2, .int res)] → W p l e rmX0_withAbove s m args below meth c s.heap [] 0 0 Q (F0 m 35 ls []))), W p l e rmX0_withAbove s m args below meth c s.heap [] 0 0 Q (F0 m 4 ls []) := by
    intro x1 n
    induction n with
    | zero =>
      intro x2 x3 ls hl res h K0
      exact absurd h (fun q : (none : Option (Int32)) = some res => by cases q)
    | succ n ih =>
      intro x2 x3 ls hl res h K0
      have h : L_X0_withAbove_4_step x1 o0 o1 (L_X0_withAbove_4 x1 o0 o1 n) x2 x3 = some res := h
      unfold L_X0_withAbove_4_step at h
      refine lv_iload_n hx hb dX0_withAbove_4 rfl (lv_at hl 3 rfl) ?_
      refine lv_bipush (v := (8 : Int32)) hx hb dX0_withAbove_5 (by decide) ?_
      refine lv_icmp_ge (tgt := 35) hx hb dX0_withAbove_7 (by decide) (fun hc => ?_) (fun hc => ?_)
      · have h := if_t hc h
        cases h
        exact K0 _ (lv_sub hl [2] rfl)
      · have h := if_f hc h
        refine lv_iload_n hx hb dX0_withAbove_10 rfl (lv_at hl 1 rfl) ?_
        refine lv_iload_n hx hb dX0_withAbove_11 rfl (lv_at hl 3 rfl) ?_
        obtain ⟨z1, hz1, h⟩ := bd_some h
        refine cR_SN (As := [.int x1, .int x3]) (rest := []) ⟨hx, hb, hml, hown, hts⟩ (c_X7_has l D cA  x1 x3 z1 hz1) ⟨va_cnB 2 hts gX0_withAbove_X7_has_n43 rfl rfl rfl (hK.2 _ (List.mem_of_getElem? (i := 31) rfl) : va_Nw (Cond.methodLinkNest RX0 43 yX7_has "TiedToTown") s) (hts (.initialized RX7) (List.mem_of_getElem? (i := 3) rfl)) hd_X7_has.2 ⟨(Nat.le_of_ble_eq_true rfl), (Nat.le_of_ble_eq_true rfl)⟩, hts (.static yX7_has) (List.mem_of_getElem? (i := 2) rfl), trivial⟩ hK hP [] rfl rfl hl.1 rfl (Nat.le_of_ble_eq_true rfl) dX0_withAbove_12 ⟨(Nat.le_of_ble_eq_true rfl), (Nat.le_of_ble_eq_true rfl)⟩ ?_
        refine lv_if_eq (tgt := 29) hx hb dX0_withAbove_15 (by decide) (fun hc => ?_) (fun hc => ?_)
        · have h := if_t hc h
          obtain ⟨v2, ev2⟩ : ∃ y : Int32, y = x3 + (1 : Int32) := ⟨_, rfl⟩
          refine lv_iinc (v := v2) (lv' := [(3, .int v2), (0, .ref (a0 0)), (1, .int x1), (2, .int x2)]) hx hb dX0_withAbove_29 hl (k := 3) rfl (by rw [ev2]; rfl) (by decide) rfl (fun ls hl => ?_)
          have h := nm_ap ev2 h
          refine lv_goto (tgt := 4) hx hb dX0_withAbove_32 (by decide) ?_
          exact ih x2 v2 ls (lv_sub hl [1, 2, 3, 0] rfl) _ h K0
        · have h := if_f hc h
          refine lv_iload_n hx hb dX0_withAbove_18 rfl (lv_at hl 2 rfl) ?_
          refine lv_aload_n hx hb dX0_withAbove_19 rfl (lv_at hl 0 rfl) ?_
          refine va_get (D := D) (ci := 0) (v := .ref (a1 0)) (C := RX0) (T := TX0) (N := 2) hx hb hts hinX0 hown hK.1 hP 0 rfl rfl 0 (by decide) lkf15 (fun _ h9 => h9) rfl dX0_withAbove_20 ?_
          refine lv_iload_n hx hb dX0_withAbove_23 rfl (lv_at hl 3 rfl) ?_
          obtain ⟨z3, hz3, h⟩ := bd_some h
          refine cR_V (As := [.int x3]) (rest := [.int x2]) ⟨hx, hb, hml, hown, hts⟩ (c_X6_above l D cA a1 o1 x3 z3 hz3) (cwV 1 hts gX0_withAbove_X6_above rfl rfl rfl hd_X6_above ⟨(Nat.le_of_ble_eq_true rfl), (Nat.le_of_ble_eq_true rfl)⟩) (recvK hK hP 2 6 rfl rfl) hK hP [2, 3, 4, 5, 6, 7, 8] rfl rfl hl.1 rfl (Nat.le_of_ble_eq_true rfl) dX0_withAbove_24 ⟨(Nat.le_of_ble_eq_true rfl), (Nat.le_of_ble_eq_true rfl)⟩ ?_
          refine lv_ior hx hb dX0_withAbove_27 ?_
          refine lv_topi (fun v4 ev4 => ?_)
          have h := nm_ap ev4 h
          refine lv_istore_n (lv' := [(2, .int v4), (0, .ref (a0 0)), (1, .int x1), (3, .int x3)]) hx hb dX0_withAbove_28 rfl hl (by decide) rfl (fun ls hl => ?_)
          obtain ⟨v5, ev5⟩ : ∃ y : Int32, y = x3 + (1 : Int32) := ⟨_, rfl⟩
          refine lv_iinc (v := v5) (lv' := [(3, .int v5), (2, .int v4), (0, .ref (a0 0)), (1, .int x1)]) hx hb dX0_withAbove_29 hl (k := 3) rfl (by rw [ev5]; rfl) (by decide) rfl (fun ls hl => ?_)
          have h := nm_ap ev5 h
          refine lv_goto (tgt := 4) hx hb dX0_withAbove_32 (by decide) ?_
          exact ih v4 v5 ls (lv_sub hl [2, 3, 1, 0] rfl) _ h K0
  refine lv_iload_n hx hb dX0_withAbove_0 rfl (lv_at hl 1 rfl) ?_
  refine lv_istore_n (lv' := [(2, .int x1), (0, .ref (a0 0)), (1, .int x1)]) hx hb dX0_withAbove_1 rfl hl (by decide) rfl (fun ls hl => ?_)
  refine lv_iconst (v := (0 : Int32)) hx hb dX0_withAbove_2 (by decide) ?_
  refine lv_istore_n (lv' := [(3, .int (0 : Int32)), (2, .int x1), (0, .ref (a0 0)), (1, .int x1)]) hx hb dX0_withAbove_3 rfl hl (by decide) rfl (fun ls hl => ?_)
  obtain ⟨z1, hz1, h⟩ := bd_some h
  refine LP4 x1 512 x1 (0 : Int32) ls (lv_sub hl [2, 3, 1, 0] rfl) _ hz1 ?_
  · intro ls hl
    refine lv_iload_n hx hb dX0_withAbove_35 rfl (lv_at hl 0 rfl) ?_
    cases h
    exact hend _ _ dX0_withAbove_36
abbrev rmX6_mayToday : Room := ({ frames := 3, cells := 0, slots := 0, locals := 70 } : Room)
set_option maxHeartbeats 4000000 in
set_option maxRecDepth 100000 in
theorem c_X6_mayToday (l : Launch) (D : va_G) (cA : ClassId) (a0 : (Nat → Nat)) (o0 : Ob) (x1 : Int32) (x2 : Int32) (r : Int32) (h : f_X6_mayToday o0 x1 x2 = some r) : ConR l yX6_mayToday wsX6_mayToday rmX6_mayToday D cA [.ref (a0 0), .int x1, .int x2] (wX6 cA a0 o0) r := by
  refine ConZ.enter (cc := cX6_mayToday) (maxL := 3) (by decide) rfl (Nat.le_of_ble_eq_true rfl) ?_
  intro p e s m args below meth c Q hx hb hml hown hts hK hP  hend ls hl
  have hl : lv_has ls 3 [(0, .ref (a0 0)), (1, .int x1), (2, .int x2)] := hl
  unfold f_X6_mayToday at h
  have lkf46 := hts (.fieldLink RX6 46 "TiedToTown$Town" "day" "I") (List.mem_of_getElem? (i := 1) rfl)
  have hinX6 : ∀ w ∈ wsX60, w ∈ wsX6_mayToday := fun w h => List.mem_cons_of_mem _ (List.mem_append_right _ h)
  have lkf34 := hts (.fieldLink RX6 34 "TiedToTown$Town" "alive" "I") (List.mem_of_getElem? (i := 2) rfl)
  refine lv_aload_n hx hb dX6_mayToday_0 rfl (lv_at hl 0 rfl) ?_
  refine lv_iload_n hx hb dX6_mayToday_1 rfl (lv_at hl 1 rfl) ?_
  refine lv_iload_n hx hb dX6_mayToday_2 rfl (lv_at hl 2 rfl) ?_
  refine lv_aload_n hx hb dX6_mayToday_3 rfl (lv_at hl 0 rfl) ?_
  refine va_get (D := D) (ci := 6) (v := .int (o0.1 11)) (C := RX6) (T := TX6) (N := 12) hx hb hts hinX6 hown hK.1 hP 0 rfl rfl 11 (by decide) lkf46 (fun _ h9 => h9) rfl dX6_mayToday_4 ?_
  refine lv_aload_n hx hb dX6_mayToday_7 rfl (lv_at hl 0 rfl) ?_
  refine va_get (D := D) (ci := 6) (v := .int (o0.1 7)) (C := RX6) (T := TX6) (N := 12) hx hb hts hinX6 hown hK.1 hP 0 rfl rfl 7 (by decide) lkf34 (fun _ h9 => h9) rfl dX6_mayToday_8 ?_
  obtain ⟨z1, hz1, h⟩ := bd_some h
  refine cR_V (As := [.int x1, .int x2, .int (o0.1 11), .int (o0.1 7)]) (rest := []) ⟨hx, hb, hml, hown, hts⟩ (c_X6_mayBe l D cA a0 o0 x1 x2 (o0.1 11) (o0.1 7) z1 hz1) (cwV 4 hts gX6_mayToday_X6_mayBe rfl rfl rfl hd_X6_mayBe ⟨(Nat.le_of_ble_eq_true rfl), (Nat.le_of_ble_eq_true rfl)⟩) (recvK hK hP 0 6 rfl rfl) hK hP [0, 1, 2, 3, 4, 5, 6] rfl rfl hl.1 rfl (Nat.le_of_ble_eq_true rfl) dX6_mayToday_11 ⟨(Nat.le_of_ble_eq_true rfl), (Nat.le_of_ble_eq_true rfl)⟩ ?_
  obtain ⟨hz9, h⟩ := gd_some h
  cases h
  exact hend _ _ (ckz_n hz9) dX6_mayToday_14
abbrev rmX0_lowestThatMay : Room := ({ frames := 4, cells := 0, slots := 0, locals := 92 } : Room)
set_option maxHeartbeats 4000000 in
set_option maxRecDepth 100000 in
theorem c_X0_lowestThatMay (l : Launch) (D : va_G) (cA : ClassId) (a0 : (Nat → Nat)) (o0 : Ob) (a1 : (Nat → Nat)) (o1 : Ob) (x1 : Int32) (x2 : Int32) (r : Int32) (h : f_X0_lowestThatMay o0 o1 x1 x2 = some r) : ConR l yX0_lowestThatMay wsX0_lowestThatMay rmX0_lowestThatMay D cA [.ref (a0 0), .int x1, .int x2] (wX0 cA a0 (a1 0) o0 ++ wX6 cA a1 o1) r := by
  refine ConR.enter (cc := cX0_lowestThatMay) (maxL := 4) (by decide) rfl (Nat.le_of_ble_eq_true rfl) ?_
  intro p e s m args below meth c Q hx hb hml hown hts hK hP  hend ls hl
  have hl : lv_has ls 4 [(0, .ref (a0 0)), (1, .int x1), (2, .int x2)] := hl
  unfold f_X0_lowestThatMay at h
  have lkf15 := hts (.fieldLink RX0 15 "TiedToTown$Outlook" "town" "LTiedToTown$Town;") (List.mem_of_getElem? (i := 1) rfl)
  have hinX0 : ∀ w ∈ wsX00, w ∈ wsX0_lowestThatMay := fun w h => List.mem_cons_of_mem _ (List.mem_append_left _ (List.mem_append_right _ h))
  have LP2 : ∀ (x1 : Int32) (x2 : Int32) (n : Nat) (x3 : Int32) (ls : Array Slot) (_ : lv_has ls 4 [(0, .ref (a0 0)), (1, .int x1), (2, .int x2), (3, .int x3)]) (res : Nat × Int32) (_ : L_X0_lowestThatMay_2 x1 x2 o0 o1 n x3 = some res) (_ : (∀ (ls : Array Slot), lv_has ls 4 [(3, .int res.2)] → res.1 = 0 → W p l e rmX0_lowestThatMay s m args below meth c s.heap [] 0 0 Q (F0 m 28 ls []))) (_ : (∀ (ls : Array Slot), lv_has ls 4 [] → res.1 = 1 → W p l e rmX0_lowestThatMay s m args below meth c s.heap [] 0 0 Q (F0 m 36 ls []))), W p l e rmX0_lowestThatMay s m args below meth c s.heap [] 0 0 Q (F0 m 2 ls []) := by
    intro x1 x2 n
    induction n with
    | zero =>
      intro x3 ls hl res h K0 K1
      exact absurd h (fun q : (none : Option (Nat × Int32)) = some res => by cases q)
    | succ n ih =>
      intro x3 ls hl res h K0 K1
      have h : L_X0_lowestThatMay_2_step x1 x2 o0 o1 (L_X0_lowestThatMay_2 x1 x2 o0 o1 n) x3 = some res := h
      unfold L_X0_lowestThatMay_2_step at h
      refine lv_iload_n hx hb dX0_lowestThatMay_2 rfl (lv_at hl 3 rfl) ?_
      refine lv_bipush (v := (8 : Int32)) hx hb dX0_lowestThatMay_3 (by decide) ?_
      refine lv_icmp_ge (tgt := 36) hx hb dX0_lowestThatMay_5 (by decide) (fun hc => ?_) (fun hc => ?_)
      · have h := if_t hc h
        cases h
        exact K1 _ (lv_sub hl [] rfl) rfl
      · have h := if_f hc h
        refine lv_iload_n hx hb dX0_lowestThatMay_8 rfl (lv_at hl 1 rfl) ?_
        refine lv_iload_n hx hb dX0_lowestThatMay_9 rfl (lv_at hl 3 rfl) ?_
        obtain ⟨z1, hz1, h⟩ := bd_some h
        refine cR_SN (As := [.int x1, .int x3]) (rest := []) ⟨hx, hb, hml, hown, hts⟩ (c_X7_has l D cA  x1 x3 z1 hz1) ⟨va_cnB 2 hts gX0_lowestThatMay_X7_has_n43 rfl rfl rfl (hK.2 _ (List.mem_of_getElem? (i := 31) rfl) : va_Nw (Cond.methodLinkNest RX0 43 yX7_has "TiedToTown") s) (hts (.initialized RX7) (List.mem_of_getElem? (i := 3) rfl)) hd_X7_has.2 ⟨(Nat.le_of_ble_eq_true rfl), (Nat.le_of_ble_eq_true rfl)⟩, hts (.static yX7_has) (List.mem_of_getElem? (i := 2) rfl), trivial⟩ hK hP [] rfl rfl hl.1 rfl (Nat.le_of_ble_eq_true rfl) dX0_lowestThatMay_10 ⟨(Nat.le_of_ble_eq_true rfl), (Nat.le_of_ble_eq_true rfl)⟩ ?_
        refine lv_if_eq (tgt := 30) hx hb dX0_lowestThatMay_13 (by decide) (fun hc => ?_) (fun hc => ?_)
        · have h := if_t hc h
          obtain ⟨v2, ev2⟩ : ∃ y : Int32, y = x3 + (1 : Int32) := ⟨_, rfl⟩
          refine lv_iinc (v := v2) (lv' := [(3, .int v2), (0, .ref (a0 0)), (1, .int x1), (2, .int x2)]) hx hb dX0_lowestThatMay_30 hl (k := 3) rfl (by rw [ev2]; rfl) (by decide) rfl (fun ls hl => ?_)
          have h := nm_ap ev2 h
          refine lv_goto (tgt := 2) hx hb dX0_lowestThatMay_33 (by decide) ?_
          exact ih v2 ls (lv_sub hl [1, 2, 3, 0] rfl) _ h K0 K1
        · have h := if_f hc h
          refine lv_aload_n hx hb dX0_lowestThatMay_16 rfl (lv_at hl 0 rfl) ?_
          refine va_get (D := D) (ci := 0) (v := .ref (a1 0)) (C := RX0) (T := TX0) (N := 2) hx hb hts hinX0 hown hK.1 hP 0 rfl rfl 0 (by decide) lkf15 (fun _ h9 => h9) rfl dX0_lowestThatMay_17 ?_
          refine lv_iload_n hx hb dX0_lowestThatMay_20 rfl (lv_at hl 3 rfl) ?_
          refine lv_iload_n hx hb dX0_lowestThatMay_21 rfl (lv_at hl 2 rfl) ?_
          obtain ⟨z3, hz3, h⟩ := bd_some h
          refine cR_V (As := [.int x3, .int x2]) (rest := []) ⟨hx, hb, hml, hown, hts⟩ (c_X6_mayToday l D cA a1 o1 x3 x2 z3 hz3) (cwV 2 hts gX0_lowestThatMay_X6_mayToday rfl rfl rfl hd_X6_mayToday ⟨(Nat.le_of_ble_eq_true rfl), (Nat.le_of_ble_eq_true rfl)⟩) (recvK hK hP 2 6 rfl rfl) hK hP [2, 3, 4, 5, 6, 7, 8] rfl rfl hl.1 rfl (Nat.le_of_ble_eq_true rfl) dX0_lowestThatMay_22 ⟨(Nat.le_of_ble_eq_true rfl), (Nat.le_of_ble_eq_true rfl)⟩ ?_
          refine lv_if_eq (tgt := 30) hx hb dX0_lowestThatMay_25 (by decide) (fun hc => ?_) (fun hc => ?_)
          · have h := if_t hc h
            obtain ⟨v4, ev4⟩ : ∃ y : Int32, y = x3 + (1 : Int32) := ⟨_, rfl⟩
            refine lv_iinc (v := v4) (lv' := [(3, .int v4), (0, .ref (a0 0)), (1, .int x1), (2, .int x2)]) hx hb dX0_lowestThatMay_30 hl (k := 3) rfl (by rw [ev4]; rfl) (by decide) rfl (fun ls hl => ?_)
            have h := nm_ap ev4 h
            refine lv_goto (tgt := 2) hx hb dX0_lowestThatMay_33 (by decide) ?_
            exact ih v4 ls (lv_sub hl [1, 2, 3, 0] rfl) _ h K0 K1
          · have h := if_f hc h
            cases h
            exact K0 _ (lv_sub hl [3] rfl) rfl
  refine lv_iconst (v := (0 : Int32)) hx hb dX0_lowestThatMay_0 (by decide) ?_
  refine lv_istore_n (lv' := [(3, .int (0 : Int32)), (0, .ref (a0 0)), (1, .int x1), (2, .int x2)]) hx hb dX0_lowestThatMay_1 rfl hl (by decide) rfl (fun ls hl => ?_)
  obtain ⟨z1, hz1, h⟩ := bd_some h
  refine LP2 x1 x2 512 (0 : Int32) ls (lv_sub hl [1, 2, 3, 0] rfl) _ hz1 ?_ ?_
  · intro ls hl hi
    have h := if_t hi h
    refine lv_iload_n hx hb dX0_lowestThatMay_28 rfl (lv_at hl 0 rfl) ?_
    cases h
    exact hend _ _ dX0_lowestThatMay_29
  · intro ls hl hi
    have h := if_f (by rw [hi]; decide) h
    refine lv_bipush (v := (-4 : Int32)) hx hb dX0_lowestThatMay_36 (by decide) ?_
    cases h
    exact hend _ _ dX0_lowestThatMay_38
abbrev rmX0_inTurn : Room := ({ frames := 5, cells := 0, slots := 0, locals := 115 } : Room)
set_option maxHeartbeats 4000000 in
set_option maxRecDepth 100000 in
theorem c_X0_inTurn (l : Launch) (D : va_G) (cA : ClassId) (a0 : (Nat → Nat)) (o0 : Ob) (a1 : (Nat → Nat)) (o1 : Ob) (x1 : Int32) (x2 : Int32) (r : Int32) (h : f_X0_inTurn o0 o1 x1 x2 = some r) : ConR l yX0_inTurn wsX0_inTurn rmX0_inTurn D cA [.ref (a0 0), .int x1, .int x2] (wX0 cA a0 (a1 0) o0 ++ wX6 cA a1 o1) r := by
  refine ConR.enter (cc := cX0_inTurn) (maxL := 6) (by decide) rfl (Nat.le_of_ble_eq_true rfl) ?_
  intro p e s m args below meth c Q hx hb hml hown hts hK hP  hend ls hl
  have hl : lv_has ls 6 [(0, .ref (a0 0)), (1, .int x1), (2, .int x2)] := hl
  unfold f_X0_inTurn at h
  have lkf15 := hts (.fieldLink RX0 15 "TiedToTown$Outlook" "town" "LTiedToTown$Town;") (List.mem_of_getElem? (i := 1) rfl)
  have hinX0 : ∀ w ∈ wsX00, w ∈ wsX0_inTurn := fun w h => List.mem_cons_of_mem _ (List.mem_append_left _ (List.mem_append_right _ h))
  have lkf32 := va_Nw.use (w := Cond.fieldLinkNest RX0 32 "TiedToTown$Town" "tied" "I" "TiedToTown") rfl (A := args) (hK.2 _ (List.mem_of_getElem? (i := 18) rfl))
  have hinX6 : ∀ w ∈ wsX60, w ∈ wsX0_inTurn := fun w h => List.mem_cons_of_mem _ (List.mem_append_right _ h)
  have LP11 : ∀ (x1 : Int32) (x2 : Int32) (n : Nat) (x3 : Int32) (x4 : Int32) (ls : Array Slot) (_ : lv_has ls 6 [(0, .ref (a0 0)), (1, .int x1), (2, .int x2), (3, .int x3), (4, .int x4)]) (res : Nat × Int32) (_ : L_X0_inTurn_11 x1 x2 o0 o1 n x3 x4 = some res) (_ : (∀ (ls : Array Slot), lv_has ls 6 [(5, .int res.2)] → res.1 = 0 → W p l e rmX0_inTurn s m args below meth c s.heap [] 0 0 Q (F0 m 41 ls []))) (_ : (∀ (ls : Array Slot), lv_has ls 6 [] → res.1 = 1 → W p l e rmX0_inTurn s m args below meth c s.heap [] 0 0 Q (F0 m 60 ls []))), W p l e rmX0_inTurn s m args below meth c s.heap [] 0 0 Q (F0 m 11 ls []) := by
    intro x1 x2 n
    induction n with
    | zero =>
      intro x3 x4 ls hl res h K0 K1
      exact absurd h (fun q : (none : Option (Nat × Int32)) = some res => by cases q)
    | succ n ih =>
      intro x3 x4 ls hl res h K0 K1
      have h : L_X0_inTurn_11_step x1 x2 o0 o1 (L_X0_inTurn_11 x1 x2 o0 o1 n) x3 x4 = some res := h
      unfold L_X0_inTurn_11_step at h
      refine lv_iload hx hb dX0_inTurn_11 (lv_at hl 4 rfl) ?_
      refine lv_bipush (v := (8 : Int32)) hx hb dX0_inTurn_13 (by decide) ?_
      refine lv_icmp_ge (tgt := 60) hx hb dX0_inTurn_15 (by decide) (fun hc => ?_) (fun hc => ?_)
      · have h := if_t hc h
        cases h
        exact K1 _ (lv_sub hl [] rfl) rfl
      · have h := if_f hc h
        refine lv_aload_n hx hb dX0_inTurn_18 rfl (lv_at hl 0 rfl) ?_
        refine lv_iload_n hx hb dX0_inTurn_19 rfl (lv_at hl 1 rfl) ?_
        refine lv_iload_n hx hb dX0_inTurn_20 rfl (lv_at hl 3 rfl) ?_
        refine lv_iand hx hb dX0_inTurn_21 ?_
        refine lv_iload_n hx hb dX0_inTurn_22 rfl (lv_at hl 3 rfl) ?_
        obtain ⟨z1, hz1, h⟩ := bd_some h
        refine cR_V (As := [.int (x1 &&& x3), .int x3]) (rest := []) ⟨hx, hb, hml, hown, hts⟩ (c_X0_lowestThatMay l D cA a0 o0 a1 o1 (x1 &&& x3) x3 z1 hz1) (cwV 2 hts gX0_inTurn_X0_lowestThatMay rfl rfl rfl hd_X0_lowestThatMay ⟨(Nat.le_of_ble_eq_true rfl), (Nat.le_of_ble_eq_true rfl)⟩) (recvK hK hP 0 0 rfl rfl) hK hP [0, 1, 2, 3, 4, 5, 6, 7, 8] rfl rfl hl.1 rfl (Nat.le_of_ble_eq_true rfl) dX0_inTurn_23 ⟨(Nat.le_of_ble_eq_true rfl), (Nat.le_of_ble_eq_true rfl)⟩ ?_
        refine lv_istore (lv' := [(5, .int z1), (0, .ref (a0 0)), (1, .int x1), (2, .int x2), (3, .int x3), (4, .int x4)]) hx hb dX0_inTurn_26 hl (by decide) rfl (fun ls hl => ?_)
        refine lv_iload hx hb dX0_inTurn_28 (lv_at hl 0 rfl) ?_
        refine lv_bipush (v := (-4 : Int32)) hx hb dX0_inTurn_30 (by decide) ?_
        refine lv_icmp_eq (tgt := 41) hx hb dX0_inTurn_32 (by decide) (fun hc => ?_) (fun hc => ?_)
        · have h := if_t hc h
          cases h
          exact K0 _ (lv_sub hl [0] rfl) rfl
        · have h := if_f hc h
          refine lv_iload hx hb dX0_inTurn_35 (lv_at hl 5 rfl) ?_
          refine lv_iload_n hx hb dX0_inTurn_37 rfl (lv_at hl 3 rfl) ?_
          refine lv_icmp_ne (tgt := 44) hx hb dX0_inTurn_38 (by decide) (fun hc => ?_) (fun hc => ?_)
          · have h := if_f hc h
            refine lv_iload_n hx hb dX0_inTurn_44 rfl (lv_at hl 4 rfl) ?_
            refine lv_iload hx hb dX0_inTurn_45 (lv_at hl 0 rfl) ?_
            obtain ⟨z2, hz2, h⟩ := bd_some h
            refine cR_SN (As := [.int z1]) (rest := [.int x3]) ⟨hx, hb, hml, hown, hts⟩ (c_X7_bit l D cA  z1 z2 hz2) ⟨va_cnB 1 hts gX0_inTurn_X7_bit_n39 rfl rfl rfl (hK.2 _ (List.mem_of_getElem? (i := 30) rfl) : va_Nw (Cond.methodLinkNest RX0 39 yX7_bit "TiedToTown") s) (hts (.initialized RX7) (List.mem_of_getElem? (i := 8) rfl)) hd_X7_bit.2 ⟨(Nat.le_of_ble_eq_true rfl), (Nat.le_of_ble_eq_true rfl)⟩, hts (.static yX7_bit) (List.mem_of_getElem? (i := 41) rfl), trivial⟩ hK hP [] rfl rfl hl.1 rfl (Nat.le_of_ble_eq_true rfl) dX0_inTurn_47 ⟨(Nat.le_of_ble_eq_true rfl), (Nat.le_of_ble_eq_true rfl)⟩ ?_
            refine lv_iconst (v := (-1 : Int32)) hx hb dX0_inTurn_50 (by decide) ?_
            refine lv_ixor hx hb dX0_inTurn_51 ?_
            refine lv_iand hx hb dX0_inTurn_52 ?_
            refine lv_topi (fun v3 ev3 => ?_)
            have h := nm_ap ev3 h
            refine lv_istore_n (lv' := [(3, .int v3), (5, .int z1), (0, .ref (a0 0)), (1, .int x1), (2, .int x2), (4, .int x4)]) hx hb dX0_inTurn_53 rfl hl (by decide) rfl (fun ls hl => ?_)
            obtain ⟨v4, ev4⟩ : ∃ y : Int32, y = x4 + (1 : Int32) := ⟨_, rfl⟩
            refine lv_iinc (v := v4) (lv' := [(4, .int v4), (3, .int v3), (5, .int z1), (0, .ref (a0 0)), (1, .int x1), (2, .int x2)]) hx hb dX0_inTurn_54 hl (k := 5) rfl (by rw [ev4]; rfl) (by decide) rfl (fun ls hl => ?_)
            have h := nm_ap ev4 h
            refine lv_goto (tgt := 11) hx hb dX0_inTurn_57 (by decide) ?_
            exact ih v3 v4 ls (lv_sub hl [3, 4, 5, 1, 0] rfl) _ h K0 K1
          · have h := if_t hc h
            cases h
            exact K0 _ (lv_sub hl [0] rfl) rfl
  refine lv_aload_n hx hb dX0_inTurn_0 rfl (lv_at hl 0 rfl) ?_
  refine va_get (D := D) (ci := 0) (v := .ref (a1 0)) (C := RX0) (T := TX0) (N := 2) hx hb hts hinX0 hown hK.1 hP 0 rfl rfl 0 (by decide) lkf15 (fun _ h9 => h9) rfl dX0_inTurn_1 ?_
  refine va_getN (D := D) (ci := 6) (v := .int (o1.1 10)) (C := RX6) (T := TX6) (N := 12) hx hb hts hinX6 hown hK.1 hP 2 rfl rfl 10 (by decide) lkf32 (fun _ h9 => h9) rfl dX0_inTurn_4 ?_
  refine lv_topi (fun v1 ev1 => ?_)
  have h := nm_ap ev1 h
  refine lv_istore_n (lv' := [(3, .int v1), (0, .ref (a0 0)), (1, .int x1), (2, .int x2)]) hx hb dX0_inTurn_7 rfl hl (by decide) rfl (fun ls hl => ?_)
  refine lv_iconst (v := (0 : Int32)) hx hb dX0_inTurn_8 (by decide) ?_
  refine lv_istore (lv' := [(4, .int (0 : Int32)), (3, .int v1), (0, .ref (a0 0)), (1, .int x1), (2, .int x2)]) hx hb dX0_inTurn_9 hl (by decide) rfl (fun ls hl => ?_)
  obtain ⟨z2, hz2, h⟩ := bd_some h
  refine LP11 x1 x2 512 v1 (0 : Int32) ls (lv_sub hl [2, 3, 4, 1, 0] rfl) _ hz2 ?_ ?_
  · intro ls hl hi
    have h := if_t hi h
    refine lv_iload hx hb dX0_inTurn_41 (lv_at hl 0 rfl) ?_
    cases h
    exact hend _ _ dX0_inTurn_43
  · intro ls hl hi
    have h := if_f (by rw [hi]; decide) h
    refine lv_bipush (v := (-4 : Int32)) hx hb dX0_inTurn_60 (by decide) ?_
    cases h
    exact hend _ _ dX0_inTurn_62
abbrev rmJ6_bitCount_0f7a4 : Room := ({ frames := 0, cells := 0, slots := 0, locals := 0 } : Room)
set_option maxHeartbeats 4000000 in
set_option maxRecDepth 100000 in
theorem c_J6_bitCount_0f7a4 (l : Launch) (D : va_G) (cA : ClassId) (x0 : Int32) (r : Int32) (h : f_J6_bitCount_0f7a4 x0 = some r) : ConR l yJ6_bitCount_0f7a4 wsJ6_bitCount_0f7a4 rmJ6_bitCount_0f7a4 D cA [.int x0] ([] : va_W) r := by
  refine ConR.enter (cc := cJ6_bitCount_0f7a4) (maxL := 1) (by decide) rfl (Nat.le_of_ble_eq_true rfl) ?_
  intro p e s m args below meth c Q hx hb hml hown hts hK hP  hend ls hl
  have hl : lv_has ls 1 [(0, .int x0)] := hl
  unfold f_J6_bitCount_0f7a4 at h
  have lkc265 := hts (.constant RJ6 265 (1431655765)) (List.mem_of_getElem? (i := 1) rfl)
  have lkc266 := hts (.constant RJ6 266 (858993459)) (List.mem_of_getElem? (i := 2) rfl)
  have lkc267 := hts (.constant RJ6 267 (252645135)) (List.mem_of_getElem? (i := 3) rfl)
  refine lv_iload_n hx hb dJ6_bitCount_0f7a4_0 rfl (lv_at hl 0 rfl) ?_
  refine lv_iload_n hx hb dJ6_bitCount_0f7a4_1 rfl (lv_at hl 0 rfl) ?_
  refine lv_iconst (v := (1 : Int32)) hx hb dJ6_bitCount_0f7a4_2 (by decide) ?_
  refine lv_iushr hx hb dJ6_bitCount_0f7a4_3 rfl ?_
  refine lv_ldcw hx hb hown lkc265 dJ6_bitCount_0f7a4_4 ?_
  refine lv_iand hx hb dJ6_bitCount_0f7a4_7 ?_
  refine lv_isub hx hb dJ6_bitCount_0f7a4_8 ?_
  refine lv_topi (fun v1 ev1 => ?_)
  have h := nm_ap ev1 h
  refine lv_istore_n (lv' := [(0, .int v1)]) hx hb dJ6_bitCount_0f7a4_9 rfl hl (by decide) rfl (fun ls hl => ?_)
  refine lv_iload_n hx hb dJ6_bitCount_0f7a4_10 rfl (lv_at hl 0 rfl) ?_
  refine lv_ldcw hx hb hown lkc266 dJ6_bitCount_0f7a4_11 ?_
  refine lv_iand hx hb dJ6_bitCount_0f7a4_14 ?_
  refine lv_iload_n hx hb dJ6_bitCount_0f7a4_15 rfl (lv_at hl 0 rfl) ?_
  refine lv_iconst (v := (2 : Int32)) hx hb dJ6_bitCount_0f7a4_16 (by decide) ?_
  refine lv_iushr hx hb dJ6_bitCount_0f7a4_17 rfl ?_
  refine lv_ldcw hx hb hown lkc266 dJ6_bitCount_0f7a4_18 ?_
  refine lv_iand hx hb dJ6_bitCount_0f7a4_21 ?_
  refine lv_iadd hx hb dJ6_bitCount_0f7a4_22 ?_
  refine lv_topi (fun v2 ev2 => ?_)
  have h := nm_ap ev2 h
  refine lv_istore_n (lv' := [(0, .int v2)]) hx hb dJ6_bitCount_0f7a4_23 rfl hl (by decide) rfl (fun ls hl => ?_)
  refine lv_iload_n hx hb dJ6_bitCount_0f7a4_24 rfl (lv_at hl 0 rfl) ?_
  refine lv_iload_n hx hb dJ6_bitCount_0f7a4_25 rfl (lv_at hl 0 rfl) ?_
  refine lv_iconst (v := (4 : Int32)) hx hb dJ6_bitCount_0f7a4_26 (by decide) ?_
  refine lv_iushr hx hb dJ6_bitCount_0f7a4_27 rfl ?_
  refine lv_iadd hx hb dJ6_bitCount_0f7a4_28 ?_
  refine lv_ldcw hx hb hown lkc267 dJ6_bitCount_0f7a4_29 ?_
  refine lv_iand hx hb dJ6_bitCount_0f7a4_32 ?_
  refine lv_topi (fun v3 ev3 => ?_)
  have h := nm_ap ev3 h
  refine lv_istore_n (lv' := [(0, .int v3)]) hx hb dJ6_bitCount_0f7a4_33 rfl hl (by decide) rfl (fun ls hl => ?_)
  refine lv_iload_n hx hb dJ6_bitCount_0f7a4_34 rfl (lv_at hl 0 rfl) ?_
  refine lv_iload_n hx hb dJ6_bitCount_0f7a4_35 rfl (lv_at hl 0 rfl) ?_
  refine lv_bipush (v := (8 : Int32)) hx hb dJ6_bitCount_0f7a4_36 (by decide) ?_
  refine lv_iushr hx hb dJ6_bitCount_0f7a4_38 rfl ?_
  refine lv_iadd hx hb dJ6_bitCount_0f7a4_39 ?_
  refine lv_topi (fun v4 ev4 => ?_)
  have h := nm_ap ev4 h
  refine lv_istore_n (lv' := [(0, .int v4)]) hx hb dJ6_bitCount_0f7a4_40 rfl hl (by decide) rfl (fun ls hl => ?_)
  refine lv_iload_n hx hb dJ6_bitCount_0f7a4_41 rfl (lv_at hl 0 rfl) ?_
  refine lv_iload_n hx hb dJ6_bitCount_0f7a4_42 rfl (lv_at hl 0 rfl) ?_
  refine lv_bipush (v := (16 : Int32)) hx hb dJ6_bitCount_0f7a4_43 (by decide) ?_
  refine lv_iushr hx hb dJ6_bitCount_0f7a4_45 rfl ?_
  refine lv_iadd hx hb dJ6_bitCount_0f7a4_46 ?_
  refine lv_topi (fun v5 ev5 => ?_)
  have h := nm_ap ev5 h
  refine lv_istore_n (lv' := [(0, .int v5)]) hx hb dJ6_bitCount_0f7a4_47 rfl hl (by decide) rfl (fun ls hl => ?_)
  refine lv_iload_n hx hb dJ6_bitCount_0f7a4_48 rfl (lv_at hl 0 rfl) ?_
  refine lv_bipush (v := (63 : Int32)) hx hb dJ6_bitCount_0f7a4_49 (by decide) ?_
  refine lv_iand hx hb dJ6_bitCount_0f7a4_51 ?_
  cases h
  exact hend _ _ dJ6_bitCount_0f7a4_52
abbrev rmX7_ropeOf : Room := ({ frames := 1, cells := 0, slots := 0, locals := 21 } : Room)
set_option maxHeartbeats 4000000 in
set_option maxRecDepth 100000 in
theorem c_X7_ropeOf (l : Launch) (D : va_G) (cA : ClassId) (x0 : Int32) (r : Int32) (h : f_X7_ropeOf x0 = some r) : ConR l yX7_ropeOf wsX7_ropeOf rmX7_ropeOf D cA [.int x0] ([] : va_W) r := by
  refine ConR.enter (cc := cX7_ropeOf) (maxL := 4) (by decide) rfl (Nat.le_of_ble_eq_true rfl) ?_
  intro p e s m args below meth c Q hx hb hml hown hts hK hP  hend ls hl
  have hl : lv_has ls 4 [(0, .int x0)] := hl
  unfold f_X7_ropeOf at h
  have LP8 : ∀ (x0 : Int32) (n : Nat) (x1 : Int32) (x2 : Int32) (x3 : Int32) (ls : Array Slot) (_ : lv_has ls 4 [(0, .int x0), (1, .int x1), (2, .int x2), (3, .int x3)]) (res : Int32 × Int32) (_ : L_X7_ropeOf_8 x0 n x1 x2 x3 = some res) (_ : (∀ (ls : Array Slot), lv_has ls 4 [(1, .int res.1), (2, .int res.2)] → W p l e rmX7_ropeOf s m args below meth c s.heap [] 0 0 Q (F0 m 36 ls []))), W p l e rmX7_ropeOf s m args below meth c s.heap [] 0 0 Q (F0 m 8 ls []) := by
    intro x0 n
    induction n with
    | zero =>
      intro x1 x2 x3 ls hl res h K0
      exact absurd h (fun q : (none : Option (Int32 × Int32)) = some res => by cases q)
    | succ n ih =>
      intro x1 x2 x3 ls hl res h K0
      have h : L_X7_ropeOf_8_step x0 (L_X7_ropeOf_8 x0 n) x1 x2 x3 = some res := h
      unfold L_X7_ropeOf_8_step at h
      refine lv_iload_n hx hb dX7_ropeOf_8 rfl (lv_at hl 3 rfl) ?_
      refine lv_bipush (v := (8 : Int32)) hx hb dX7_ropeOf_9 (by decide) ?_
      refine lv_icmp_ge (tgt := 36) hx hb dX7_ropeOf_11 (by decide) (fun hc => ?_) (fun hc => ?_)
      · have h := if_t hc h
        cases h
        exact K0 _ (lv_sub hl [1, 2] rfl)
      · have h := if_f hc h
        refine lv_iload_n hx hb dX7_ropeOf_14 rfl (lv_at hl 0 rfl) ?_
        refine lv_iload_n hx hb dX7_ropeOf_15 rfl (lv_at hl 3 rfl) ?_
        obtain ⟨z1, hz1, h⟩ := bd_some h
        refine cR_S (As := [.int x0, .int x3]) (rest := []) ⟨hx, hb, hml, hown, hts⟩ (c_X7_has l D cA  x0 x3 z1 hz1) (va_cwS 2 hts gX7_ropeOf_X7_has rfl rfl rfl hd_X7_has.2 ⟨(Nat.le_of_ble_eq_true rfl), (Nat.le_of_ble_eq_true rfl)⟩) hK hP [] rfl rfl hl.1 rfl (Nat.le_of_ble_eq_true rfl) dX7_ropeOf_16 ⟨(Nat.le_of_ble_eq_true rfl), (Nat.le_of_ble_eq_true rfl)⟩ ?_
        refine lv_if_eq (tgt := 30) hx hb dX7_ropeOf_19 (by decide) (fun hc => ?_) (fun hc => ?_)
        · have h := if_t hc h
          obtain ⟨v2, ev2⟩ : ∃ y : Int32, y = x3 + (1 : Int32) := ⟨_, rfl⟩
          refine lv_iinc (v := v2) (lv' := [(3, .int v2), (0, .int x0), (1, .int x1), (2, .int x2)]) hx hb dX7_ropeOf_30 hl (k := 3) rfl (by rw [ev2]; rfl) (by decide) rfl (fun ls hl => ?_)
          have h := nm_ap ev2 h
          refine lv_goto (tgt := 8) hx hb dX7_ropeOf_33 (by decide) ?_
          exact ih x1 x2 v2 ls (lv_sub hl [1, 2, 3, 0] rfl) _ h K0
        · have h := if_f hc h
          refine lv_iload_n hx hb dX7_ropeOf_22 rfl (lv_at hl 1 rfl) ?_
          refine lv_iload_n hx hb dX7_ropeOf_23 rfl (lv_at hl 3 rfl) ?_
          refine va_mmin hx hb (hml.trans hl.1.symm) hown (hts (.methodLink RX7 265 Lib.Math.min.name) (List.mem_of_getElem? (i := 1) rfl)) (hts (.static Lib.Math.min.name) (List.mem_of_getElem? (i := 2) rfl)) (hts (.initialized "java/lang/Math") (List.mem_of_getElem? (i := 3) rfl)) (hts (.code Lib.Math.min.name Lib.Math.min.code 2 (some .int)) (List.mem_of_getElem? (i := 4) rfl)) (Nat.le_of_ble_eq_true rfl) (Nat.le_of_ble_eq_true rfl) (Nat.le_of_ble_eq_true rfl) (Nat.le_of_ble_eq_true rfl) dX7_ropeOf_24 ?_
          refine lv_topi (fun v3 ev3 => ?_)
          have h := nm_ap ev3 h
          refine lv_istore_n (lv' := [(1, .int v3), (0, .int x0), (2, .int x2), (3, .int x3)]) hx hb dX7_ropeOf_27 rfl hl (by decide) rfl (fun ls hl => ?_)
          refine lv_iload_n hx hb dX7_ropeOf_28 rfl (lv_at hl 3 rfl) ?_
          refine lv_istore_n (lv' := [(2, .int x3), (1, .int v3), (0, .int x0), (3, .int x3)]) hx hb dX7_ropeOf_29 rfl hl (by decide) rfl (fun ls hl => ?_)
          obtain ⟨v4, ev4⟩ : ∃ y : Int32, y = x3 + (1 : Int32) := ⟨_, rfl⟩
          refine lv_iinc (v := v4) (lv' := [(3, .int v4), (2, .int x3), (1, .int v3), (0, .int x0)]) hx hb dX7_ropeOf_30 hl (k := 3) rfl (by rw [ev4]; rfl) (by decide) rfl (fun ls hl => ?_)
          have h := nm_ap ev4 h
          refine lv_goto (tgt := 8) hx hb dX7_ropeOf_33 (by decide) ?_
          exact ih v3 x3 v4 ls (lv_sub hl [3, 2, 1, 0] rfl) _ h K0
  refine lv_bipush (v := (8 : Int32)) hx hb dX7_ropeOf_0 (by decide) ?_
  refine lv_istore_n (lv' := [(1, .int (8 : Int32)), (0, .int x0)]) hx hb dX7_ropeOf_2 rfl hl (by decide) rfl (fun ls hl => ?_)
  refine lv_bipush (v := (8 : Int32)) hx hb dX7_ropeOf_3 (by decide) ?_
  refine lv_istore_n (lv' := [(2, .int (8 : Int32)), (1, .int (8 : Int32)), (0, .int x0)]) hx hb dX7_ropeOf_5 rfl hl (by decide) rfl (fun ls hl => ?_)
  refine lv_iconst (v := (0 : Int32)) hx hb dX7_ropeOf_6 (by decide) ?_
  refine lv_istore_n (lv' := [(3, .int (0 : Int32)), (2, .int (8 : Int32)), (1, .int (8 : Int32)), (0, .int x0)]) hx hb dX7_ropeOf_7 rfl hl (by decide) rfl (fun ls hl => ?_)
  obtain ⟨z1, hz1, h⟩ := bd_some h
  refine LP8 x0 512 (8 : Int32) (8 : Int32) (0 : Int32) ls (lv_sub hl [3, 2, 1, 0] rfl) _ hz1 ?_
  · intro ls hl
    refine lv_iload_n hx hb dX7_ropeOf_36 rfl (lv_at hl 1 rfl) ?_
    refine lv_iload_n hx hb dX7_ropeOf_37 rfl (lv_at hl 0 rfl) ?_
    refine lv_isub hx hb dX7_ropeOf_38 ?_
    cases h
    exact hend _ _ dX7_ropeOf_39
abbrev rmX0_shortest : Room := ({ frames := 2, cells := 0, slots := 0, locals := 44 } : Room)
set_option maxHeartbeats 4000000 in
set_option maxRecDepth 100000 in
theorem c_X0_shortest (l : Launch) (D : va_G) (cA : ClassId) (a0 : (Nat → Nat)) (o0 : Ob) (a1 : (Nat → Nat)) (o1 : Ob) (x1 : Int32) (x2 : Int32) (r : Int32) (h : f_X0_shortest o0 o1 x1 x2 = some r) : ConR l yX0_shortest wsX0_shortest rmX0_shortest D cA [.ref (a0 0), .int x1, .int x2] (wX0 cA a0 (a1 0) o0 ++ wX6 cA a1 o1) r := by
  refine ConR.enter (cc := cX0_shortest) (maxL := 6) (by decide) rfl (Nat.le_of_ble_eq_true rfl) ?_
  intro p e s m args below meth c Q hx hb hml hown hts hK hP  hend ls hl
  have hl : lv_has ls 6 [(0, .ref (a0 0)), (1, .int x1), (2, .int x2)] := hl
  unfold f_X0_shortest at h
  have lkf9 := hts (.fieldLink RX0 9 "TiedToTown$Outlook" "ways" "[I") (List.mem_of_getElem? (i := 1) rfl)
  have hinX0 : ∀ w ∈ wsX00, w ∈ wsX0_shortest := fun w h => List.mem_cons_of_mem _ (List.mem_append_right _ h)
  have LP5 : ∀ (x1 : Int32) (x2 : Int32) (n : Nat) (x3 : Int32) (x4 : Int32) (ls : Array Slot) (_ : lv_has ls 6 [(0, .ref (a0 0)), (1, .int x1), (2, .int x2), (3, .int x3), (4, .int x4)]) (res : Int32) (_ : L_X0_shortest_5 x1 x2 o0 o1 n x3 x4 = some res) (_ : (∀ (ls : Array Slot), lv_has ls 6 [(3, .int res)] → W p l e rmX0_shortest s m args below meth c s.heap [] 0 0 Q (F0 m 70 ls []))), W p l e rmX0_shortest s m args below meth c s.heap [] 0 0 Q (F0 m 5 ls []) := by
    intro x1 x2 n
    induction n with
    | zero =>
      intro x3 x4 ls hl res h K0
      exact absurd h (fun q : (none : Option (Int32)) = some res => by cases q)
    | succ n ih =>
      intro x3 x4 ls hl res h K0
      have h : L_X0_shortest_5_step x1 x2 o0 o1 (L_X0_shortest_5 x1 x2 o0 o1 n) x3 x4 = some res := h
      unfold L_X0_shortest_5_step at h
      have JP5_38 : ∀ (k0 : Int32) (x3 : Int32) (x4 : Int32) (ls : Array Slot) (_ : lv_has ls 6 [(0, .ref (a0 0)), (1, .int x1), (2, .int x2), (3, .int x3), (4, .int x4)]) (_ : J_X0_shortest_38l5 (L_X0_shortest_5 x1 x2 o0 o1 n) k0 x1 x2 x3 x4 o0 o1 = some res), W p l e rmX0_shortest s m args below meth c s.heap [] 0 0 Q (F0 m 38 ls [.int k0]) := by
        intro k0 x3 x4 ls hl h
        unfold J_X0_shortest_38l5 at h
        refine lv_istore (lv' := [(5, .int k0), (0, .ref (a0 0)), (1, .int x1), (2, .int x2), (3, .int x3), (4, .int x4)]) hx hb dX0_shortest_38 hl (by decide) rfl (fun ls hl => ?_)
        refine lv_iload hx hb dX0_shortest_40 (lv_at hl 0 rfl) ?_
        refine lv_if_eq (tgt := 64) hx hb dX0_shortest_42 (by decide) (fun hc => ?_) (fun hc => ?_)
        · have h := if_t hc h
          obtain ⟨v1, ev1⟩ : ∃ y : Int32, y = x4 + (1 : Int32) := ⟨_, rfl⟩
          refine lv_iinc (v := v1) (lv' := [(4, .int v1), (5, .int k0), (0, .ref (a0 0)), (1, .int x1), (2, .int x2), (3, .int x3)]) hx hb dX0_shortest_64 hl (k := 5) rfl (by rw [ev1]; rfl) (by decide) rfl (fun ls hl => ?_)
          have h := nm_ap ev1 h
          refine lv_goto (tgt := 5) hx hb dX0_shortest_67 (by decide) ?_
          exact ih x3 v1 ls (lv_sub hl [2, 3, 4, 5, 0] rfl) _ h K0
        · have h := if_f hc h
          refine lv_iload_n hx hb dX0_shortest_45 rfl (lv_at hl 4 rfl) ?_
          refine lv_if_eq (tgt := 61) hx hb dX0_shortest_46 (by decide) (fun hc => ?_) (fun hc => ?_)
          · have h := if_t hc h
            refine lv_iload hx hb dX0_shortest_61 (lv_at hl 5 rfl) ?_
            refine lv_istore_n (lv' := [(3, .int x4), (5, .int k0), (0, .ref (a0 0)), (1, .int x1), (2, .int x2), (4, .int x4)]) hx hb dX0_shortest_63 rfl hl (by decide) rfl (fun ls hl => ?_)
            obtain ⟨v2, ev2⟩ : ∃ y : Int32, y = x4 + (1 : Int32) := ⟨_, rfl⟩
            refine lv_iinc (v := v2) (lv' := [(4, .int v2), (3, .int x4), (5, .int k0), (0, .ref (a0 0)), (1, .int x1), (2, .int x2)]) hx hb dX0_shortest_64 hl (k := 5) rfl (by rw [ev2]; rfl) (by decide) rfl (fun ls hl => ?_)
            have h := nm_ap ev2 h
            refine lv_goto (tgt := 5) hx hb dX0_shortest_67 (by decide) ?_
            exact ih x4 v2 ls (lv_sub hl [3, 4, 5, 1, 0] rfl) _ h K0
          · have h := if_f hc h
            refine lv_iload hx hb dX0_shortest_49 (lv_at hl 5 rfl) ?_
            obtain ⟨z3, hz3, h⟩ := bd_some h
            refine cR_SN (As := [.int x4]) (rest := []) ⟨hx, hb, hml, hown, hts⟩ (c_X7_ropeOf l D cA  x4 z3 hz3) ⟨va_cnB 1 hts gX0_shortest_X7_ropeOf_n67 rfl rfl rfl (hK.2 _ (List.mem_of_getElem? (i := 33) rfl) : va_Nw (Cond.methodLinkNest RX0 67 yX7_ropeOf "TiedToTown") s) (hts (.initialized RX7) (List.mem_of_getElem? (i := 10) rfl)) hd_X7_ropeOf.2 ⟨(Nat.le_of_ble_eq_true rfl), (Nat.le_of_ble_eq_true rfl)⟩, hts (.static yX7_ropeOf) (List.mem_of_getElem? (i := 12) rfl), trivial⟩ hK hP [] rfl rfl hl.1 rfl (Nat.le_of_ble_eq_true rfl) dX0_shortest_51 ⟨(Nat.le_of_ble_eq_true rfl), (Nat.le_of_ble_eq_true rfl)⟩ ?_
            refine lv_iload_n hx hb dX0_shortest_54 rfl (lv_at hl 4 rfl) ?_
            obtain ⟨z4, hz4, h⟩ := bd_some h
            refine cR_SN (As := [.int x3]) (rest := [.int z3]) ⟨hx, hb, hml, hown, hts⟩ (c_X7_ropeOf l D cA  x3 z4 hz4) ⟨va_cnB 1 hts gX0_shortest_X7_ropeOf_n67 rfl rfl rfl (hK.2 _ (List.mem_of_getElem? (i := 33) rfl) : va_Nw (Cond.methodLinkNest RX0 67 yX7_ropeOf "TiedToTown") s) (hts (.initialized RX7) (List.mem_of_getElem? (i := 10) rfl)) hd_X7_ropeOf.2 ⟨(Nat.le_of_ble_eq_true rfl), (Nat.le_of_ble_eq_true rfl)⟩, hts (.static yX7_ropeOf) (List.mem_of_getElem? (i := 12) rfl), trivial⟩ hK hP [] rfl rfl hl.1 rfl (Nat.le_of_ble_eq_true rfl) dX0_shortest_55 ⟨(Nat.le_of_ble_eq_true rfl), (Nat.le_of_ble_eq_true rfl)⟩ ?_
            refine lv_icmp_ge (tgt := 64) hx hb dX0_shortest_58 (by decide) (fun hc => ?_) (fun hc => ?_)
            · have h := if_t hc h
              obtain ⟨v5, ev5⟩ : ∃ y : Int32, y = x4 + (1 : Int32) := ⟨_, rfl⟩
              refine lv_iinc (v := v5) (lv' := [(4, .int v5), (5, .int k0), (0, .ref (a0 0)), (1, .int x1), (2, .int x2), (3, .int x3)]) hx hb dX0_shortest_64 hl (k := 5) rfl (by rw [ev5]; rfl) (by decide) rfl (fun ls hl => ?_)
              have h := nm_ap ev5 h
              refine lv_goto (tgt := 5) hx hb dX0_shortest_67 (by decide) ?_
              exact ih x3 v5 ls (lv_sub hl [2, 3, 4, 5, 0] rfl) _ h K0
            · have h := if_f hc h
              refine lv_iload hx hb dX0_shortest_61 (lv_at hl 5 rfl) ?_
              refine lv_istore_n (lv' := [(3, .int x4), (5, .int k0), (0, .ref (a0 0)), (1, .int x1), (2, .int x2), (4, .int x4)]) hx hb dX0_shortest_63 rfl hl (by decide) rfl (fun ls hl => ?_)
              obtain ⟨v6, ev6⟩ : ∃ y : Int32, y = x4 + (1 : Int32) := ⟨_, rfl⟩
              refine lv_iinc (v := v6) (lv' := [(4, .int v6), (3, .int x4), (5, .int k0), (0, .ref (a0 0)), (1, .int x1), (2, .int x2)]) hx hb dX0_shortest_64 hl (k := 5) rfl (by rw [ev6]; rfl) (by decide) rfl (fun ls hl => ?_)
              have h := nm_ap ev6 h
              refine lv_goto (tgt := 5) hx hb dX0_shortest_67 (by decide) ?_
              exact ih x4 v6 ls (lv_sub hl [3, 4, 5, 1, 0] rfl) _ h K0
      have JP5_37 : ∀ (x3 : Int32) (x4 : Int32) (ls : Array Slot) (_ : lv_has ls 6 [(0, .ref (a0 0)), (1, .int x1), (2, .int x2), (3, .int x3), (4, .int x4)]) (_ : J_X0_shortest_37l5 (L_X0_shortest_5 x1 x2 o0 o1 n) x1 x2 x3 x4 o0 o1 = some res), W p l e rmX0_shortest s m args below meth c s.heap [] 0 0 Q (F0 m 37 ls []) := by
        intro x3 x4 ls hl h
        unfold J_X0_shortest_37l5 at h
        refine lv_iconst (v := (0 : Int32)) hx hb dX0_shortest_37 (by decide) ?_
        exact JP5_38 (0 : Int32) x3 x4 ls (lv_sub hl [0, 1, 2, 3, 4] rfl) h
      refine lv_iload hx hb dX0_shortest_5 (lv_at hl 4 rfl) ?_
      refine lv_aload_n hx hb dX0_shortest_7 rfl (lv_at hl 0 rfl) ?_
      refine va_get (D := D) (ci := 0) (v := .ref (a0 2)) (C := RX0) (T := TX0) (N := 2) hx hb hts hinX0 hown hK.1 hP 0 rfl rfl 1 (by decide) lkf9 (fun _ h9 => h9) rfl dX0_shortest_8 ?_
      refine alen (v := (256 : Int32)) hx hb hK hP 1 rfl (by decide) dX0_shortest_11 ?_
      refine lv_icmp_ge (tgt := 70) hx hb dX0_shortest_12 (by decide) (fun hc => ?_) (fun hc => ?_)
      · have h := if_t hc h
        cases h
        exact K0 _ (lv_sub hl [3] rfl)
      · have h := if_f hc h
        refine lv_iload hx hb dX0_shortest_15 (lv_at hl 4 rfl) ?_
        obtain ⟨z1, hz1, h⟩ := bd_some h
        refine cR_S (As := [.int x4]) (rest := []) ⟨hx, hb, hml, hown, hts⟩ (c_J6_bitCount_0f7a4 l D cA  x4 z1 hz1) (va_cwS 1 hts gX0_shortest_J6_bitCount_0f7a4 rfl rfl rfl hd_J6_bitCount_0f7a4.2 ⟨(Nat.le_of_ble_eq_true rfl), (Nat.le_of_ble_eq_true rfl)⟩) hK hP [] rfl rfl hl.1 rfl (Nat.le_of_ble_eq_true rfl) dX0_shortest_17 ⟨(Nat.le_of_ble_eq_true rfl), (Nat.le_of_ble_eq_true rfl)⟩ ?_
        refine lv_iload_n hx hb dX0_shortest_20 rfl (lv_at hl 1 rfl) ?_
        refine lv_icmp_ne (tgt := 37) hx hb dX0_shortest_21 (by decide) (fun hc => ?_) (fun hc => ?_)
        · have h := if_f hc h
          exact JP5_37 x3 x4 ls (lv_sub hl [0, 1, 2, 3, 4] rfl) h
        · have h := if_t hc h
          refine lv_iload hx hb dX0_shortest_24 (lv_at hl 4 rfl) ?_
          refine lv_iload_n hx hb dX0_shortest_26 rfl (lv_at hl 2 rfl) ?_
          obtain ⟨z2, hz2, h⟩ := bd_some h
          refine cR_SN (As := [.int x4, .int x2]) (rest := []) ⟨hx, hb, hml, hown, hts⟩ (c_X7_isWithin l D cA  x4 x2 z2 hz2) ⟨va_cnB 2 hts gX0_shortest_X7_isWithin_n64 rfl rfl rfl (hK.2 _ (List.mem_of_getElem? (i := 32) rfl) : va_Nw (Cond.methodLinkNest RX0 64 yX7_isWithin "TiedToTown") s) (hts (.initialized RX7) (List.mem_of_getElem? (i := 10) rfl)) hd_X7_isWithin.2 ⟨(Nat.le_of_ble_eq_true rfl), (Nat.le_of_ble_eq_true rfl)⟩, hts (.static yX7_isWithin) (List.mem_of_getElem? (i := 9) rfl), trivial⟩ hK hP [] rfl rfl hl.1 rfl (Nat.le_of_ble_eq_true rfl) dX0_shortest_27 ⟨(Nat.le_of_ble_eq_true rfl), (Nat.le_of_ble_eq_true rfl)⟩ ?_
          refine lv_if_eq (tgt := 37) hx hb dX0_shortest_30 (by decide) (fun hc => ?_) (fun hc => ?_)
          · have h := if_t hc h
            exact JP5_37 x3 x4 ls (lv_sub hl [0, 1, 2, 3, 4] rfl) h
          · have h := if_f hc h
            refine lv_iconst (v := (1 : Int32)) hx hb dX0_shortest_33 (by decide) ?_
            refine lv_goto (tgt := 38) hx hb dX0_shortest_34 (by decide) ?_
            exact JP5_38 (1 : Int32) x3 x4 ls (lv_sub hl [0, 1, 2, 3, 4] rfl) h
  refine lv_iconst (v := (0 : Int32)) hx hb dX0_shortest_0 (by decide) ?_
  refine lv_istore_n (lv' := [(3, .int (0 : Int32)), (0, .ref (a0 0)), (1, .int x1), (2, .int x2)]) hx hb dX0_shortest_1 rfl hl (by decide) rfl (fun ls hl => ?_)
  refine lv_iconst (v := (1 : Int32)) hx hb dX0_shortest_2 (by decide) ?_
  refine lv_istore (lv' := [(4, .int (1 : Int32)), (3, .int (0 : Int32)), (0, .ref (a0 0)), (1, .int x1), (2, .int x2)]) hx hb dX0_shortest_3 hl (by decide) rfl (fun ls hl => ?_)
  obtain ⟨z1, hz1, h⟩ := bd_some h
  refine LP5 x1 x2 512 (0 : Int32) (1 : Int32) ls (lv_sub hl [2, 3, 4, 1, 0] rfl) _ hz1 ?_
  · intro ls hl
    refine lv_iload_n hx hb dX0_shortest_70 rfl (lv_at hl 0 rfl) ?_
    cases h
    exact hend _ _ dX0_shortest_71
abbrev rmX0_waysOf : Room := ({ frames := 1, cells := 0, slots := 0, locals := 21 } : Room)
set_option maxHeartbeats 4000000 in
set_option maxRecDepth 100000 in
theorem c_X0_waysOf (l : Launch) (D : va_G) (cA : ClassId) (a0 : (Nat → Nat)) (o0 : Ob) (a1 : (Nat → Nat)) (o1 : Ob) (x1 : Int32) (r : Int32) (h : f_X0_waysOf o0 o1 x1 = some r) : ConR l yX0_waysOf wsX0_waysOf rmX0_waysOf D cA [.ref (a0 0), .int x1] (wX0 cA a0 (a1 0) o0 ++ wX6 cA a1 o1) r := by
  refine ConR.enter (cc := cX0_waysOf) (maxL := 4) (by decide) rfl (Nat.le_of_ble_eq_true rfl) ?_
  intro p e s m args below meth c Q hx hb hml hown hts hK hP  hend ls hl
  have hl : lv_has ls 4 [(0, .ref (a0 0)), (1, .int x1)] := hl
  unfold f_X0_waysOf at h
  have lkf15 := hts (.fieldLink RX0 15 "TiedToTown$Outlook" "town" "LTiedToTown$Town;") (List.mem_of_getElem? (i := 1) rfl)
  have hinX0 : ∀ w ∈ wsX00, w ∈ wsX0_waysOf := fun w h => List.mem_cons_of_mem _ (List.mem_append_left _ (List.mem_append_right _ h))
  have lkf73 := va_Nw.use (w := Cond.fieldLinkNest RX0 73 "TiedToTown$Town" "through" "[I" "TiedToTown") rfl (A := args) (hK.2 _ (List.mem_of_getElem? (i := 8) rfl))
  have hinX6 : ∀ w ∈ wsX60, w ∈ wsX0_waysOf := fun w h => List.mem_cons_of_mem _ (List.mem_append_right _ h)
  have lkf32 := va_Nw.use (w := Cond.fieldLinkNest RX0 32 "TiedToTown$Town" "tied" "I" "TiedToTown") rfl (A := args) (hK.2 _ (List.mem_of_getElem? (i := 18) rfl))
  have lkf9 := hts (.fieldLink RX0 9 "TiedToTown$Outlook" "ways" "[I") (List.mem_of_getElem? (i := 2) rfl)
  have LP4 : ∀ (x1 : Int32) (n : Nat) (x2 : Int32) (x3 : Int32) (ls : Array Slot) (_ : lv_has ls 4 [(0, .ref (a0 0)), (1, .int x1), (2, .int x2), (3, .int x3)]) (res : Int32) (_ : L_X0_waysOf_4 x1 o0 o1 n x2 x3 = some res) (_ : (∀ (ls : Array Slot), lv_has ls 4 [(2, .int res)] → W p l e rmX0_waysOf s m args below meth c s.heap [] 0 0 Q (F0 m 72 ls []))), W p l e rmX0_waysOf s m args below meth c s.heap [] 0 0 Q (F0 m 4 ls []) := by
    intro x1 n
    induction n with
    | zero =>
      intro x2 x3 ls hl res h K0
      exact absurd h (fun q : (none : Option (Int32)) = some res => by cases q)
    | succ n ih =>
      intro x2 x3 ls hl res h K0
      have h : L_X0_waysOf_4_step x1 o0 o1 (L_X0_waysOf_4 x1 o0 o1 n) x2 x3 = some res := h
      unfold L_X0_waysOf_4_step at h
      refine lv_iload_n hx hb dX0_waysOf_4 rfl (lv_at hl 3 rfl) ?_
      refine lv_bipush (v := (8 : Int32)) hx hb dX0_waysOf_5 (by decide) ?_
      refine lv_icmp_ge (tgt := 72) hx hb dX0_waysOf_7 (by decide) (fun hc => ?_) (fun hc => ?_)
      · have h := if_t hc h
        cases h
        exact K0 _ (lv_sub hl [2] rfl)
      · have h := if_f hc h
        refine lv_iload_n hx hb dX0_waysOf_10 rfl (lv_at hl 1 rfl) ?_
        refine lv_iload_n hx hb dX0_waysOf_11 rfl (lv_at hl 3 rfl) ?_
        obtain ⟨z1, hz1, h⟩ := bd_some h
        refine cR_SN (As := [.int x1, .int x3]) (rest := []) ⟨hx, hb, hml, hown, hts⟩ (c_X7_has l D cA  x1 x3 z1 hz1) ⟨va_cnB 2 hts gX0_waysOf_X7_has_n43 rfl rfl rfl (hK.2 _ (List.mem_of_getElem? (i := 31) rfl) : va_Nw (Cond.methodLinkNest RX0 43 yX7_has "TiedToTown") s) (hts (.initialized RX7) (List.mem_of_getElem? (i := 4) rfl)) hd_X7_has.2 ⟨(Nat.le_of_ble_eq_true rfl), (Nat.le_of_ble_eq_true rfl)⟩, hts (.static yX7_has) (List.mem_of_getElem? (i := 3) rfl), trivial⟩ hK hP [] rfl rfl hl.1 rfl (Nat.le_of_ble_eq_true rfl) dX0_waysOf_12 ⟨(Nat.le_of_ble_eq_true rfl), (Nat.le_of_ble_eq_true rfl)⟩ ?_
        refine lv_if_eq (tgt := 66) hx hb dX0_waysOf_15 (by decide) (fun hc => ?_) (fun hc => ?_)
        · have h := if_t hc h
          obtain ⟨v2, ev2⟩ : ∃ y : Int32, y = x3 + (1 : Int32) := ⟨_, rfl⟩
          refine lv_iinc (v := v2) (lv' := [(3, .int v2), (0, .ref (a0 0)), (1, .int x1), (2, .int x2)]) hx hb dX0_waysOf_66 hl (k := 3) rfl (by rw [ev2]; rfl) (by decide) rfl (fun ls hl => ?_)
          have h := nm_ap ev2 h
          refine lv_goto (tgt := 4) hx hb dX0_waysOf_69 (by decide) ?_
          exact ih x2 v2 ls (lv_sub hl [1, 2, 3, 0] rfl) _ h K0
        · have h := if_f hc h
          refine lv_aload_n hx hb dX0_waysOf_18 rfl (lv_at hl 0 rfl) ?_
          refine va_get (D := D) (ci := 0) (v := .ref (a1 0)) (C := RX0) (T := TX0) (N := 2) hx hb hts hinX0 hown hK.1 hP 0 rfl rfl 0 (by decide) lkf15 (fun _ h9 => h9) rfl dX0_waysOf_19 ?_
          refine va_getN (D := D) (ci := 6) (v := .ref (a1 4)) (C := RX6) (T := TX6) (N := 12) hx hb hts hinX6 hown hK.1 hP 2 rfl rfl 3 (by decide) lkf73 (fun _ h9 => h9) rfl dX0_waysOf_22 ?_
          refine lv_iload_n hx hb dX0_waysOf_25 rfl (lv_at hl 3 rfl) ?_
          obtain ⟨hi3, h⟩ := gd_some h
          refine iald (q0 := 0) (t0 := 0) (j := x3.toNatClampNeg) hx hb hK hP 6 rfl rfl (ck_in hi3) dX0_waysOf_26 ?_
          refine lv_aload_n hx hb dX0_waysOf_27 rfl (lv_at hl 0 rfl) ?_
          refine va_get (D := D) (ci := 0) (v := .ref (a1 0)) (C := RX0) (T := TX0) (N := 2) hx hb hts hinX0 hown hK.1 hP 0 rfl rfl 0 (by decide) lkf15 (fun _ h9 => h9) rfl dX0_waysOf_28 ?_
          refine va_getN (D := D) (ci := 6) (v := .int (o1.1 10)) (C := RX6) (T := TX6) (N := 12) hx hb hts hinX6 hown hK.1 hP 2 rfl rfl 10 (by decide) lkf32 (fun _ h9 => h9) rfl dX0_waysOf_31 ?_
          refine lv_iand hx hb dX0_waysOf_34 ?_
          refine lv_iload_n hx hb dX0_waysOf_35 rfl (lv_at hl 1 rfl) ?_
          obtain ⟨z4, hz4, h⟩ := bd_some h
          refine cR_SN (As := [.int ((o1.2 3 x3.toNatClampNeg) &&& (o1.1 10)), .int x1]) (rest := []) ⟨hx, hb, hml, hown, hts⟩ (c_X7_isWithin l D cA  ((o1.2 3 x3.toNatClampNeg) &&& (o1.1 10)) x1 z4 hz4) ⟨va_cnB 2 hts gX0_waysOf_X7_isWithin_n64 rfl rfl rfl (hK.2 _ (List.mem_of_getElem? (i := 32) rfl) : va_Nw (Cond.methodLinkNest RX0 64 yX7_isWithin "TiedToTown") s) (hts (.initialized RX7) (List.mem_of_getElem? (i := 4) rfl)) hd_X7_isWithin.2 ⟨(Nat.le_of_ble_eq_true rfl), (Nat.le_of_ble_eq_true rfl)⟩, hts (.static yX7_isWithin) (List.mem_of_getElem? (i := 6) rfl), trivial⟩ hK hP [] rfl rfl hl.1 rfl (Nat.le_of_ble_eq_true rfl) dX0_waysOf_36 ⟨(Nat.le_of_ble_eq_true rfl), (Nat.le_of_ble_eq_true rfl)⟩ ?_
          refine lv_if_eq (tgt := 66) hx hb dX0_waysOf_39 (by decide) (fun hc => ?_) (fun hc => ?_)
          · have h := if_t hc h
            obtain ⟨v5, ev5⟩ : ∃ y : Int32, y = x3 + (1 : Int32) := ⟨_, rfl⟩
            refine lv_iinc (v := v5) (lv' := [(3, .int v5), (0, .ref (a0 0)), (1, .int x1), (2, .int x2)]) hx hb dX0_waysOf_66 hl (k := 3) rfl (by rw [ev5]; rfl) (by decide) rfl (fun ls hl => ?_)
            have h := nm_ap ev5 h
            refine lv_goto (tgt := 4) hx hb dX0_waysOf_69 (by decide) ?_
            exact ih x2 v5 ls (lv_sub hl [1, 2, 3, 0] rfl) _ h K0
          · have h := if_f hc h
            refine lv_iload_n hx hb dX0_waysOf_42 rfl (lv_at hl 2 rfl) ?_
            refine lv_aload_n hx hb dX0_waysOf_43 rfl (lv_at hl 0 rfl) ?_
            refine va_get (D := D) (ci := 0) (v := .ref (a0 2)) (C := RX0) (T := TX0) (N := 2) hx hb hts hinX0 hown hK.1 hP 0 rfl rfl 1 (by decide) lkf9 (fun _ h9 => h9) rfl dX0_waysOf_44 ?_
            refine lv_iload_n hx hb dX0_waysOf_47 rfl (lv_at hl 1 rfl) ?_
            refine lv_iload_n hx hb dX0_waysOf_48 rfl (lv_at hl 3 rfl) ?_
            obtain ⟨z6, hz6, h⟩ := bd_some h
            refine cR_SN (As := [.int x3]) (rest := [.int x1, .ref (a0 2), .int x2]) ⟨hx, hb, hml, hown, hts⟩ (c_X7_bit l D cA  x3 z6 hz6) ⟨va_cnB 1 hts gX0_waysOf_X7_bit_n39 rfl rfl rfl (hK.2 _ (List.mem_of_getElem? (i := 30) rfl) : va_Nw (Cond.methodLinkNest RX0 39 yX7_bit "TiedToTown") s) (hts (.initialized RX7) (List.mem_of_getElem? (i := 4) rfl)) hd_X7_bit.2 ⟨(Nat.le_of_ble_eq_true rfl), (Nat.le_of_ble_eq_true rfl)⟩, hts (.static yX7_bit) (List.mem_of_getElem? (i := 8) rfl), trivial⟩ hK hP [] rfl rfl hl.1 rfl (Nat.le_of_ble_eq_true rfl) dX0_waysOf_49 ⟨(Nat.le_of_ble_eq_true rfl), (Nat.le_of_ble_eq_true rfl)⟩ ?_
            refine lv_iconst (v := (-1 : Int32)) hx hb dX0_waysOf_52 (by decide) ?_
            refine lv_ixor hx hb dX0_waysOf_53 ?_
            refine lv_iand hx hb dX0_waysOf_54 ?_
            refine lv_aload_n hx hb dX0_waysOf_55 rfl (lv_at hl 0 rfl) ?_
            refine va_get (D := D) (ci := 0) (v := .ref (a0 2)) (C := RX0) (T := TX0) (N := 2) hx hb hts hinX0 hown hK.1 hP 0 rfl rfl 1 (by decide) lkf9 (fun _ h9 => h9) rfl dX0_waysOf_56 ?_
            refine alen (v := (256 : Int32)) hx hb hK hP 1 rfl (by decide) dX0_waysOf_59 ?_
            refine lv_iconst (v := (1 : Int32)) hx hb dX0_waysOf_60 (by decide) ?_
            refine lv_isub hx hb dX0_waysOf_61 ?_
            refine lv_iand hx hb dX0_waysOf_62 ?_
            obtain ⟨hi7, h⟩ := gd_some h
            refine iald (q0 := 0) (t0 := 0) (j := ((x1 &&& (z6 ^^^ (-1 : Int32))) &&& ((256 : Int32) - (1 : Int32))).toNatClampNeg) hx hb hK hP 1 rfl rfl (ck_in hi7) dX0_waysOf_63 ?_
            refine lv_iadd hx hb dX0_waysOf_64 ?_
            refine lv_topi (fun v8 ev8 => ?_)
            have h := nm_ap ev8 h
            refine lv_istore_n (lv' := [(2, .int v8), (0, .ref (a0 0)), (1, .int x1), (3, .int x3)]) hx hb dX0_waysOf_65 rfl hl (by decide) rfl (fun ls hl => ?_)
            obtain ⟨v9, ev9⟩ : ∃ y : Int32, y = x3 + (1 : Int32) := ⟨_, rfl⟩
            refine lv_iinc (v := v9) (lv' := [(3, .int v9), (2, .int v8), (0, .ref (a0 0)), (1, .int x1)]) hx hb dX0_waysOf_66 hl (k := 3) rfl (by rw [ev9]; rfl) (by decide) rfl (fun ls hl => ?_)
            have h := nm_ap ev9 h
            refine lv_goto (tgt := 4) hx hb dX0_waysOf_69 (by decide) ?_
            exact ih v8 v9 ls (lv_sub hl [2, 3, 1, 0] rfl) _ h K0
  refine lv_iconst (v := (0 : Int32)) hx hb dX0_waysOf_0 (by decide) ?_
  refine lv_istore_n (lv' := [(2, .int (0 : Int32)), (0, .ref (a0 0)), (1, .int x1)]) hx hb dX0_waysOf_1 rfl hl (by decide) rfl (fun ls hl => ?_)
  refine lv_iconst (v := (0 : Int32)) hx hb dX0_waysOf_2 (by decide) ?_
  refine lv_istore_n (lv' := [(3, .int (0 : Int32)), (2, .int (0 : Int32)), (0, .ref (a0 0)), (1, .int x1)]) hx hb dX0_waysOf_3 rfl hl (by decide) rfl (fun ls hl => ?_)
  obtain ⟨z1, hz1, h⟩ := bd_some h
  refine LP4 x1 512 (0 : Int32) (0 : Int32) ls (lv_sub hl [2, 3, 1, 0] rfl) _ hz1 ?_
  · intro ls hl
    refine lv_iload_n hx hb dX0_waysOf_72 rfl (lv_at hl 0 rfl) ?_
    cases h
    exact hend _ _ dX0_waysOf_73
abbrev rmX0_tyingOrders : Room := ({ frames := 2, cells := 0, slots := 0, locals := 44 } : Room)
set_option maxHeartbeats 4000000 in
set_option maxRecDepth 100000 in
theorem c_X0_tyingOrders (l : Launch) (D : va_G) (cA : ClassId) (a0 : (Nat → Nat)) (o0 : Ob) (a1 : (Nat → Nat)) (o1 : Ob) (r : Int32) (o0_ : Ob) (h : f_X0_tyingOrders o0 o1 = some (r, o0_)) : ConW l yX0_tyingOrders wsX0_tyingOrders rmX0_tyingOrders D cA [.ref (a0 0)] (wX0 cA a0 (a1 0) o0 ++ wX6 cA a1 o1) r (wX0 cA a0 (a1 0) o0_ ++ wX6 cA a1 o1) := by
  refine ConW.enter (cc := cX0_tyingOrders) (maxL := 2) (by decide) rfl (Nat.le_of_ble_eq_true rfl) ?_
  intro p e s m args below meth c Q A hx hb hml hown hts hK hP hD hA hend ls hl
  have hS : va_S A s.heap s.heap [] := va_S.rf
  have hl : lv_has ls 2 [(0, .ref (a0 0))] := hl
  unfold f_X0_tyingOrders at h
  have lkf9 := hts (.fieldLink RX0 9 "TiedToTown$Outlook" "ways" "[I") (List.mem_of_getElem? (i := 1) rfl)
  have hinX0 : ∀ w ∈ wsX00, w ∈ wsX0_tyingOrders := fun w h => List.mem_cons_of_mem _ (List.mem_append_left _ (List.mem_append_right _ h))
  have lkf15 := hts (.fieldLink RX0 15 "TiedToTown$Outlook" "town" "LTiedToTown$Town;") (List.mem_of_getElem? (i := 2) rfl)
  have lkf32 := va_Nw.use (w := Cond.fieldLinkNest RX0 32 "TiedToTown$Town" "tied" "I" "TiedToTown") rfl (A := args) (hK.2 _ (List.mem_of_getElem? (i := 18) rfl))
  have hinX6 : ∀ w ∈ wsX60, w ∈ wsX0_tyingOrders := fun w h => List.mem_cons_of_mem _ (List.mem_append_right _ h)
  have LP9 : ∀ (n : Nat) (x1 : Int32) (o0 : Ob) (H : Heap) (locs : List Loc) (_ : va_P D vwCl (wX0 cA a0 (a1 0) o0 ++ wX6 cA a1 o1) H) (_ : va_D A (wX0 cA a0 (a1 0) o0 ++ wX6 cA a1 o1)) (_ : va_S A s.heap H locs) (ls : Array Slot) (_ : lv_has ls 2 [(0, .ref (a0 0)), (1, .int x1)]) (res : Ob) (_ : L_X0_tyingOrders_9 o1 n x1 o0 = some res) (_ : (∀ (H : Heap) (locs : List Loc) (_ : va_P D vwCl (wX0 cA a0 (a1 0) res ++ wX6 cA a1 o1) H) (_ : va_D A (wX0 cA a0 (a1 0) res ++ wX6 cA a1 o1)) (_ : va_S A s.heap H locs) (ls : Array Slot), lv_has ls 2 [(0, .ref (a0 0))] → W p l e rmX0_tyingOrders s m args below meth c H locs 0 0 Q (F0 m 53 ls []))), W p l e rmX0_tyingOrders s m args below meth c H locs 0 0 Q (F0 m 9 ls []) := by
    intro n
    induction n with
    | zero =>
      intro x1 o0 H locs hP hD hS ls hl res h K0
      exact absurd h (fun q : (none : Option (Ob)) = some res => by cases q)
    | succ n ih =>
      intro x1 o0 H locs hP hD hS ls hl res h K0
      have h : L_X0_tyingOrders_9_step o1 (L_X0_tyingOrders_9 o1 n) x1 o0 = some res := h
      unfold L_X0_tyingOrders_9_step at h
      refine lv_iload_n hx hb dX0_tyingOrders_9 rfl (lv_at hl 1 rfl) ?_
      refine lv_aload_n hx hb dX0_tyingOrders_10 rfl (lv_at hl 0 rfl) ?_
      refine va_get (D := D) (ci := 0) (v := .ref (a0 2)) (C := RX0) (T := TX0) (N := 2) hx hb hts hinX0 hown hK.1 hP 0 rfl rfl 1 (by decide) lkf9 (fun _ h9 => h9) rfl dX0_tyingOrders_11 ?_
      refine alen (v := (256 : Int32)) hx hb hK hP 1 rfl (by decide) dX0_tyingOrders_14 ?_
      refine lv_icmp_ge (tgt := 53) hx hb dX0_tyingOrders_15 (by decide) (fun hc => ?_) (fun hc => ?_)
      · have h := if_t hc h
        cases h
        exact K0 _ _ hP hD hS _ (lv_sub hl [0] rfl)
      · have h := if_f hc h
        refine lv_aload_n hx hb dX0_tyingOrders_18 rfl (lv_at hl 0 rfl) ?_
        refine va_get (D := D) (ci := 0) (v := .ref (a0 2)) (C := RX0) (T := TX0) (N := 2) hx hb hts hinX0 hown hK.1 hP 0 rfl rfl 1 (by decide) lkf9 (fun _ h9 => h9) rfl dX0_tyingOrders_19 ?_
        refine lv_iload_n hx hb dX0_tyingOrders_22 rfl (lv_at hl 1 rfl) ?_
        refine lv_iload_n hx hb dX0_tyingOrders_23 rfl (lv_at hl 1 rfl) ?_
        refine lv_aload_n hx hb dX0_tyingOrders_24 rfl (lv_at hl 0 rfl) ?_
        refine va_get (D := D) (ci := 0) (v := .ref (a1 0)) (C := RX0) (T := TX0) (N := 2) hx hb hts hinX0 hown hK.1 hP 0 rfl rfl 0 (by decide) lkf15 (fun _ h9 => h9) rfl dX0_tyingOrders_25 ?_
        refine va_getN (D := D) (ci := 6) (v := .int (o1.1 10)) (C := RX6) (T := TX6) (N := 12) hx hb hts hinX6 hown hK.1 hP 2 rfl rfl 10 (by decide) lkf32 (fun _ h9 => h9) rfl dX0_tyingOrders_28 ?_
        obtain ⟨z1, hz1, h⟩ := bd_some h
        refine cR_SN (As := [.int x1, .int (o1.1 10)]) (rest := [.int x1, .ref (a0 2)]) ⟨hx, hb, hml, hown, hts⟩ (c_X7_isWithin l D cA  x1 (o1.1 10) z1 hz1) ⟨va_cnB 2 hts gX0_tyingOrders_X7_isWithin_n64 rfl rfl rfl (hK.2 _ (List.mem_of_getElem? (i := 32) rfl) : va_Nw (Cond.methodLinkNest RX0 64 yX7_isWithin "TiedToTown") s) (hts (.initialized RX7) (List.mem_of_getElem? (i := 4) rfl)) hd_X7_isWithin.2 ⟨(Nat.le_of_ble_eq_true rfl), (Nat.le_of_ble_eq_true rfl)⟩, hts (.static yX7_isWithin) (List.mem_of_getElem? (i := 3) rfl), trivial⟩ hK hP [] rfl rfl hl.1 rfl (Nat.le_of_ble_eq_true rfl) dX0_tyingOrders_31 ⟨(Nat.le_of_ble_eq_true rfl), (Nat.le_of_ble_eq_true rfl)⟩ ?_
        refine lv_if_eq (tgt := 45) hx hb dX0_tyingOrders_34 (by decide) (fun hc => ?_) (fun hc => ?_)
        · have h := if_t hc h
          refine lv_iconst (v := (0 : Int32)) hx hb dX0_tyingOrders_45 (by decide) ?_
          obtain ⟨hi2, h⟩ := gd_some h
          refine iast (j := x1.toNatClampNeg) (wn := (wX0 cA a0 (a1 0) (sA o0 1 x1.toNatClampNeg (0 : Int32)) ++ wX6 cA a1 o1)) hx hb hK hP hD hS 1 rfl rfl (ck_in hi2) dX0_tyingOrders_46 rfl (fun H locs hP hD hS => ?_)
          obtain ⟨s3, es3⟩ : ∃ z, z = sA o0 1 x1.toNatClampNeg (0 : Int32) := ⟨_, rfl⟩
          rw [← es3] at hP hD
          have h := nm_ap es3 h
          obtain ⟨v4, ev4⟩ : ∃ y : Int32, y = x1 + (1 : Int32) := ⟨_, rfl⟩
          refine lv_iinc (v := v4) (lv' := [(1, .int v4), (0, .ref (a0 0))]) hx hb dX0_tyingOrders_47 hl (k := 1) rfl (by rw [ev4]; rfl) (by decide) rfl (fun ls hl => ?_)
          have h := nm_ap ev4 h
          refine lv_goto (tgt := 9) hx hb dX0_tyingOrders_50 (by decide) ?_
          exact ih v4 s3 _ _ hP hD hS ls (lv_sub hl [1, 0] rfl) _ h K0
        · have h := if_f hc h
          refine lv_aload_n hx hb dX0_tyingOrders_37 rfl (lv_at hl 0 rfl) ?_
          refine lv_iload_n hx hb dX0_tyingOrders_38 rfl (lv_at hl 1 rfl) ?_
          obtain ⟨z5, hz5, h⟩ := bd_some h
          refine cR_V (As := [.int x1]) (rest := [.int x1, .ref (a0 2)]) ⟨hx, hb, hml, hown, hts⟩ (c_X0_waysOf l D cA a0 o0 a1 o1 x1 z5 hz5) (cwV 1 hts gX0_tyingOrders_X0_waysOf rfl rfl rfl hd_X0_waysOf ⟨(Nat.le_of_ble_eq_true rfl), (Nat.le_of_ble_eq_true rfl)⟩) (recvK hK hP 0 0 rfl rfl) hK hP [0, 1, 2, 3, 4, 5, 6, 7, 8] rfl rfl hl.1 rfl (Nat.le_of_ble_eq_true rfl) dX0_tyingOrders_39 ⟨(Nat.le_of_ble_eq_true rfl), (Nat.le_of_ble_eq_true rfl)⟩ ?_
          refine lv_goto (tgt := 46) hx hb dX0_tyingOrders_42 (by decide) ?_
          obtain ⟨hi6, h⟩ := gd_some h
          refine iast (j := x1.toNatClampNeg) (wn := (wX0 cA a0 (a1 0) (sA o0 1 x1.toNatClampNeg z5) ++ wX6 cA a1 o1)) hx hb hK hP hD hS 1 rfl rfl (ck_in hi6) dX0_tyingOrders_46 rfl (fun H locs hP hD hS => ?_)
          obtain ⟨s7, es7⟩ : ∃ z, z = sA o0 1 x1.toNatClampNeg z5 := ⟨_, rfl⟩
          rw [← es7] at hP hD
          have h := nm_ap es7 h
          obtain ⟨v8, ev8⟩ : ∃ y : Int32, y = x1 + (1 : Int32) := ⟨_, rfl⟩
          refine lv_iinc (v := v8) (lv' := [(1, .int v8), (0, .ref (a0 0))]) hx hb dX0_tyingOrders_47 hl (k := 1) rfl (by rw [ev8]; rfl) (by decide) rfl (fun ls hl => ?_)
          have h := nm_ap ev8 h
          refine lv_goto (tgt := 9) hx hb dX0_tyingOrders_50 (by decide) ?_
          exact ih v8 s7 _ _ hP hD hS ls (lv_sub hl [1, 0] rfl) _ h K0
  refine lv_aload_n hx hb dX0_tyingOrders_0 rfl (lv_at hl 0 rfl) ?_
  refine va_get (D := D) (ci := 0) (v := .ref (a0 2)) (C := RX0) (T := TX0) (N := 2) hx hb hts hinX0 hown hK.1 hP 0 rfl rfl 1 (by decide) lkf9 (fun _ h9 => h9) rfl dX0_tyingOrders_1 ?_
  refine lv_iconst (v := (0 : Int32)) hx hb dX0_tyingOrders_4 (by decide) ?_
  refine lv_iconst (v := (1 : Int32)) hx hb dX0_tyingOrders_5 (by decide) ?_
  refine iast (j := 0) (wn := (wX0 cA a0 (a1 0) (sA o0 1 0 (1 : Int32)) ++ wX6 cA a1 o1)) hx hb hK hP hD hS 1 rfl rfl (vp_in_iff.mpr (by decide)) dX0_tyingOrders_6 rfl (fun H locs hP hD hS => ?_)
  obtain ⟨s1, es1⟩ : ∃ z, z = sA o0 1 0 (1 : Int32) := ⟨_, rfl⟩
  rw [← es1] at hP hD
  have h := nm_ap es1 h
  refine lv_iconst (v := (1 : Int32)) hx hb dX0_tyingOrders_7 (by decide) ?_
  refine lv_istore_n (lv' := [(1, .int (1 : Int32)), (0, .ref (a0 0))]) hx hb dX0_tyingOrders_8 rfl hl (by decide) rfl (fun ls hl => ?_)
  obtain ⟨z2, hz2, h⟩ := bd_some h
  refine LP9 512 (1 : Int32) s1 _ _ hP hD hS ls (lv_sub hl [1, 0] rfl) _ hz2 ?_
  · intro H locs hP hD hS ls hl
    refine lv_aload_n hx hb dX0_tyingOrders_53 rfl (lv_at hl 0 rfl) ?_
    refine va_get (D := D) (ci := 0) (v := .ref (a0 2)) (C := RX0) (T := TX0) (N := 2) hx hb hts hinX0 hown hK.1 hP 0 rfl rfl 1 (by decide) lkf9 (fun _ h9 => h9) rfl dX0_tyingOrders_54 ?_
    refine lv_aload_n hx hb dX0_tyingOrders_57 rfl (lv_at hl 0 rfl) ?_
    refine va_get (D := D) (ci := 0) (v := .ref (a1 0)) (C := RX0) (T := TX0) (N := 2) hx hb hts hinX0 hown hK.1 hP 0 rfl rfl 0 (by decide) lkf15 (fun _ h9 => h9) rfl dX0_tyingOrders_58 ?_
    refine va_getN (D := D) (ci := 6) (v := .int (o1.1 10)) (C := RX6) (T := TX6) (N := 12) hx hb hts hinX6 hown hK.1 hP 2 rfl rfl 10 (by decide) lkf32 (fun _ h9 => h9) rfl dX0_tyingOrders_61 ?_
    refine lv_aload_n hx hb dX0_tyingOrders_64 rfl (lv_at hl 0 rfl) ?_
    refine va_get (D := D) (ci := 0) (v := .ref (a0 2)) (C := RX0) (T := TX0) (N := 2) hx hb hts hinX0 hown hK.1 hP 0 rfl rfl 1 (by decide) lkf9 (fun _ h9 => h9) rfl dX0_tyingOrders_65 ?_
    refine alen (v := (256 : Int32)) hx hb hK hP 1 rfl (by decide) dX0_tyingOrders_68 ?_
    refine lv_iconst (v := (1 : Int32)) hx hb dX0_tyingOrders_69 (by decide) ?_
    refine lv_isub hx hb dX0_tyingOrders_70 ?_
    refine lv_iand hx hb dX0_tyingOrders_71 ?_
    obtain ⟨hi3, h⟩ := gd_some h
    refine iald (q0 := 0) (t0 := 0) (j := ((o1.1 10) &&& ((256 : Int32) - (1 : Int32))).toNatClampNeg) hx hb hK hP 1 rfl rfl (ck_in hi3) dX0_tyingOrders_72 ?_
    cases h
    exact hend _ _ _ _ hP hD hS dX0_tyingOrders_73
abbrev rmX0_drawn : Room := ({ frames := 0, cells := 0, slots := 0, locals := 0 } : Room)
set_option maxHeartbeats 4000000 in
set_option maxRecDepth 100000 in
theorem c_X0_drawn (l : Launch) (D : va_G) (cA : ClassId) (a0 : (Nat → Nat)) (o0 : Ob) (a1 : (Nat → Nat)) (o1 : Ob) (x1 : Int32) (x2 : Int32) (r : Int32) (h : f_X0_drawn o0 o1 x1 x2 = some r) : ConR l yX0_drawn wsX0_drawn rmX0_drawn D cA [.ref (a0 0), .int x1, .int x2] (wX0 cA a0 (a1 0) o0 ++ wX6 cA a1 o1) r := by
  refine ConR.enter (cc := cX0_drawn) (maxL := 5) (by decide) rfl (Nat.le_of_ble_eq_true rfl) ?_
  intro p e s m args below meth c Q hx hb hml hown hts hK hP  hend ls hl
  have hl : lv_has ls 5 [(0, .ref (a0 0)), (1, .int x1), (2, .int x2)] := hl
  unfold f_X0_drawn at h
  have lkc76 := hts (.constantLong RX0 76 (7919)) (List.mem_of_getElem? (i := 1) rfl)
  have lkc78 := hts (.constantLong RX0 78 (6151)) (List.mem_of_getElem? (i := 2) rfl)
  have lkf15 := hts (.fieldLink RX0 15 "TiedToTown$Outlook" "town" "LTiedToTown$Town;") (List.mem_of_getElem? (i := 3) rfl)
  have hinX0 : ∀ w ∈ wsX00, w ∈ wsX0_drawn := fun w h => List.mem_cons_of_mem _ (List.mem_append_left _ (List.mem_append_right _ h))
  have lkf80 := va_Nw.use (w := Cond.fieldLinkNest RX0 80 "TiedToTown$Town" "knots" "I" "TiedToTown") rfl (A := args) (hK.2 _ (List.mem_of_getElem? (i := 17) rfl))
  have hinX6 : ∀ w ∈ wsX60, w ∈ wsX0_drawn := fun w h => List.mem_cons_of_mem _ (List.mem_append_right _ h)
  have lkc83 := hts (.constantLong RX0 83 (65521)) (List.mem_of_getElem? (i := 4) rfl)
  refine lv_ldc2 hx hb hown lkc76 dX0_drawn_0 ?_
  refine lv_iload_n hx hb dX0_drawn_3 rfl (lv_at hl 1 rfl) ?_
  refine lv_i2l hx hb dX0_drawn_4 rfl ?_
  refine lv_lmul hx hb dX0_drawn_5 ?_
  refine lv_ldc2 hx hb hown lkc78 dX0_drawn_6 ?_
  refine lv_iload_n hx hb dX0_drawn_9 rfl (lv_at hl 2 rfl) ?_
  refine lv_i2l hx hb dX0_drawn_10 rfl ?_
  refine lv_lmul hx hb dX0_drawn_11 ?_
  refine lv_ladd hx hb dX0_drawn_12 ?_
  refine lv_lconst (v := (1 : Int64)) hx hb dX0_drawn_13 (by decide) ?_
  refine lv_ladd hx hb dX0_drawn_14 ?_
  refine lv_topl (fun v1 ev1 => ?_)
  have h := nm_ap ev1 h
  refine lv_lstore_n (lv' := [(3, .long v1), (0, .ref (a0 0)), (1, .int x1), (2, .int x2)]) hx hb dX0_drawn_15 rfl hl (by decide) rfl (fun ls hl => ?_)
  refine lv_aload_n hx hb dX0_drawn_16 rfl (lv_at hl 1 rfl) ?_
  refine va_get (D := D) (ci := 0) (v := .ref (a1 0)) (C := RX0) (T := TX0) (N := 2) hx hb hts hinX0 hown hK.1 hP 0 rfl rfl 0 (by decide) lkf15 (fun _ h9 => h9) rfl dX0_drawn_17 ?_
  refine va_getN (D := D) (ci := 6) (v := .int (o1.1 9)) (C := RX6) (T := TX6) (N := 12) hx hb hts hinX6 hown hK.1 hP 2 rfl rfl 9 (by decide) lkf80 (fun _ h9 => h9) rfl dX0_drawn_20 ?_
  refine lv_iconst (v := (1 : Int32)) hx hb dX0_drawn_23 (by decide) ?_
  refine lv_icmp_ge (tgt := 31) hx hb dX0_drawn_24 (by decide) (fun hc => ?_) (fun hc => ?_)
  · have h := if_t hc h
    refine lv_lload_n hx hb dX0_drawn_31 rfl (lv_at hl 0 rfl) ?_
    refine lv_lload_n hx hb dX0_drawn_32 rfl (lv_at hl 0 rfl) ?_
    refine lv_lmul hx hb dX0_drawn_33 ?_
    refine lv_ldc2 hx hb hown lkc83 dX0_drawn_34 ?_
    refine lv_lrem hx hb dX0_drawn_37 (by decide) ?_
    refine lv_aload_n hx hb dX0_drawn_38 rfl (lv_at hl 1 rfl) ?_
    refine va_get (D := D) (ci := 0) (v := .ref (a1 0)) (C := RX0) (T := TX0) (N := 2) hx hb hts hinX0 hown hK.1 hP 0 rfl rfl 0 (by decide) lkf15 (fun _ h9 => h9) rfl dX0_drawn_39 ?_
    refine va_getN (D := D) (ci := 6) (v := .int (o1.1 9)) (C := RX6) (T := TX6) (N := 12) hx hb hts hinX6 hown hK.1 hP 2 rfl rfl 9 (by decide) lkf80 (fun _ h9 => h9) rfl dX0_drawn_42 ?_
    refine lv_i2l hx hb dX0_drawn_45 rfl ?_
    obtain ⟨hn2, h⟩ := gd_some h
    refine lv_lrem hx hb dX0_drawn_46 (of_decide_eq_true hn2) ?_
    refine lv_l2i hx hb dX0_drawn_47 rfl ?_
    cases h
    exact hend _ _ dX0_drawn_48
  · have h := if_f hc h
    refine lv_iconst (v := (0 : Int32)) hx hb dX0_drawn_27 (by decide) ?_
    refine lv_goto (tgt := 48) hx hb dX0_drawn_28 (by decide) ?_
    cases h
    exact hend _ _ dX0_drawn_48
abbrev rmX0_turned : Room := ({ frames := 4, cells := 0, slots := 0, locals := 92 } : Room)
set_option maxHeartbeats 4000000 in
set_option maxRecDepth 100000 in
theorem c_X0_turned (l : Launch) (D : va_G) (cA : ClassId) (a0 : (Nat → Nat)) (o0 : Ob) (a1 : (Nat → Nat)) (o1 : Ob) (x1 : Int32) (x2 : Int32) (r : Int32) (h : f_X0_turned o0 o1 x1 x2 = some r) : ConR l yX0_turned wsX0_turned rmX0_turned D cA [.ref (a0 0), .int x1, .int x2] (wX0 cA a0 (a1 0) o0 ++ wX6 cA a1 o1) r := by
  refine ConR.enter (cc := cX0_turned) (maxL := 4) (by decide) rfl (Nat.le_of_ble_eq_true rfl) ?_
  intro p e s m args below meth c Q hx hb hml hown hts hK hP  hend ls hl
  have hl : lv_has ls 4 [(0, .ref (a0 0)), (1, .int x1), (2, .int x2)] := hl
  unfold f_X0_turned at h
  have lkf15 := hts (.fieldLink RX0 15 "TiedToTown$Outlook" "town" "LTiedToTown$Town;") (List.mem_of_getElem? (i := 1) rfl)
  have hinX0 : ∀ w ∈ wsX00, w ∈ wsX0_turned := fun w h => List.mem_cons_of_mem _ (List.mem_append_left _ (List.mem_append_right _ h))
  have lkf89 := va_Nw.use (w := Cond.fieldLinkNest RX0 89 "TiedToTown$Town" "people" "[I" "TiedToTown") rfl (A := args) (hK.2 _ (List.mem_of_getElem? (i := 5) rfl))
  have hinX6 : ∀ w ∈ wsX60, w ∈ wsX0_turned := fun w h => List.mem_cons_of_mem _ (List.mem_append_right _ h)
  have lkf25 := va_Nw.use (w := Cond.fieldLinkNest RX0 25 "TiedToTown$Town" "alive" "I" "TiedToTown") rfl (A := args) (hK.2 _ (List.mem_of_getElem? (i := 12) rfl))
  have lkf73 := va_Nw.use (w := Cond.fieldLinkNest RX0 73 "TiedToTown$Town" "through" "[I" "TiedToTown") rfl (A := args) (hK.2 _ (List.mem_of_getElem? (i := 8) rfl))
  have JP0_89 : ∀ (k0 : Int32) (x1 : Int32) (x2 : Int32) (ls : Array Slot) (_ : lv_has ls 4 [(1, .int x1), (2, .int x2)]) (_ : J_X0_turned_89 k0 x1 x2 o0 o1 = some r), W p l e rmX0_turned s m args below meth c s.heap [] 0 0 Q (F0 m 89 ls [.int k0]) := by
    intro k0 x1 x2 ls hl h
    unfold J_X0_turned_89 at h
    refine lv_istore_n (lv' := [(3, .int k0), (1, .int x1), (2, .int x2)]) hx hb dX0_turned_89 rfl hl (by decide) rfl (fun ls hl => ?_)
    refine lv_iload_n hx hb dX0_turned_90 rfl (lv_at hl 0 rfl) ?_
    refine lv_if_eq (tgt := 103) hx hb dX0_turned_91 (by decide) (fun hc => ?_) (fun hc => ?_)
    · have h := if_t hc h
      refine lv_iload_n hx hb dX0_turned_103 rfl (lv_at hl 2 rfl) ?_
      cases h
      exact hend _ _ dX0_turned_104
    · have h := if_f hc h
      refine lv_iload_n hx hb dX0_turned_94 rfl (lv_at hl 2 rfl) ?_
      refine lv_iload_n hx hb dX0_turned_95 rfl (lv_at hl 1 rfl) ?_
      obtain ⟨z1, hz1, h⟩ := bd_some h
      refine cR_SN (As := [.int x1]) (rest := [.int x2]) ⟨hx, hb, hml, hown, hts⟩ (c_X7_bit l D cA  x1 z1 hz1) ⟨va_cnB 1 hts gX0_turned_X7_bit_n39 rfl rfl rfl (hK.2 _ (List.mem_of_getElem? (i := 30) rfl) : va_Nw (Cond.methodLinkNest RX0 39 yX7_bit "TiedToTown") s) (hts (.initialized RX7) (List.mem_of_getElem? (i := 9) rfl)) hd_X7_bit.2 ⟨(Nat.le_of_ble_eq_true rfl), (Nat.le_of_ble_eq_true rfl)⟩, hts (.static yX7_bit) (List.mem_of_getElem? (i := 37) rfl), trivial⟩ hK hP [] rfl rfl hl.1 rfl (Nat.le_of_ble_eq_true rfl) dX0_turned_96 ⟨(Nat.le_of_ble_eq_true rfl), (Nat.le_of_ble_eq_true rfl)⟩ ?_
      refine lv_ior hx hb dX0_turned_99 ?_
      refine lv_goto (tgt := 104) hx hb dX0_turned_100 (by decide) ?_
      cases h
      exact hend _ _ dX0_turned_104
  have JP0_88 : ∀ (x1 : Int32) (x2 : Int32) (ls : Array Slot) (_ : lv_has ls 4 [(1, .int x1), (2, .int x2)]) (_ : J_X0_turned_88 x1 x2 o0 o1 = some r), W p l e rmX0_turned s m args below meth c s.heap [] 0 0 Q (F0 m 88 ls []) := by
    intro x1 x2 ls hl h
    unfold J_X0_turned_88 at h
    refine lv_iconst (v := (0 : Int32)) hx hb dX0_turned_88 (by decide) ?_
    exact JP0_89 (0 : Int32) x1 x2 ls (lv_sub hl [0, 1] rfl) h
  refine lv_aload_n hx hb dX0_turned_0 rfl (lv_at hl 0 rfl) ?_
  refine va_get (D := D) (ci := 0) (v := .ref (a1 0)) (C := RX0) (T := TX0) (N := 2) hx hb hts hinX0 hown hK.1 hP 0 rfl rfl 0 (by decide) lkf15 (fun _ h9 => h9) rfl dX0_turned_1 ?_
  refine lv_iload_n hx hb dX0_turned_4 rfl (lv_at hl 1 rfl) ?_
  obtain ⟨z1, hz1, h⟩ := bd_some h
  refine cR_V (As := [.int x1]) (rest := []) ⟨hx, hb, hml, hown, hts⟩ (c_X6_isKnot l D cA a1 o1 x1 z1 hz1) (cwV 1 hts gX0_turned_X6_isKnot rfl rfl rfl hd_X6_isKnot ⟨(Nat.le_of_ble_eq_true rfl), (Nat.le_of_ble_eq_true rfl)⟩) (recvK hK hP 2 6 rfl rfl) hK hP [2, 3, 4, 5, 6, 7, 8] rfl rfl hl.1 rfl (Nat.le_of_ble_eq_true rfl) dX0_turned_5 ⟨(Nat.le_of_ble_eq_true rfl), (Nat.le_of_ble_eq_true rfl)⟩ ?_
  refine lv_if_ne (tgt := 13) hx hb dX0_turned_8 (by decide) (fun hc => ?_) (fun hc => ?_)
  · have h := if_f hc h
    refine lv_iload_n hx hb dX0_turned_13 rfl (lv_at hl 2 rfl) ?_
    refine lv_iload_n hx hb dX0_turned_14 rfl (lv_at hl 1 rfl) ?_
    obtain ⟨z2, hz2, h⟩ := bd_some h
    refine cR_SN (As := [.int x2, .int x1]) (rest := []) ⟨hx, hb, hml, hown, hts⟩ (c_X7_has l D cA  x2 x1 z2 hz2) ⟨va_cnB 2 hts gX0_turned_X7_has_n43 rfl rfl rfl (hK.2 _ (List.mem_of_getElem? (i := 31) rfl) : va_Nw (Cond.methodLinkNest RX0 43 yX7_has "TiedToTown") s) (hts (.initialized RX7) (List.mem_of_getElem? (i := 9) rfl)) hd_X7_has.2 ⟨(Nat.le_of_ble_eq_true rfl), (Nat.le_of_ble_eq_true rfl)⟩, hts (.static yX7_has) (List.mem_of_getElem? (i := 8) rfl), trivial⟩ hK hP [] rfl rfl hl.1 rfl (Nat.le_of_ble_eq_true rfl) dX0_turned_15 ⟨(Nat.le_of_ble_eq_true rfl), (Nat.le_of_ble_eq_true rfl)⟩ ?_
    refine lv_if_eq (tgt := 46) hx hb dX0_turned_18 (by decide) (fun hc => ?_) (fun hc => ?_)
    · have h := if_t hc h
      refine lv_aload_n hx hb dX0_turned_46 rfl (lv_at hl 0 rfl) ?_
      refine va_get (D := D) (ci := 0) (v := .ref (a1 0)) (C := RX0) (T := TX0) (N := 2) hx hb hts hinX0 hown hK.1 hP 0 rfl rfl 0 (by decide) lkf15 (fun _ h9 => h9) rfl dX0_turned_47 ?_
      refine va_getN (D := D) (ci := 6) (v := .ref (a1 3)) (C := RX6) (T := TX6) (N := 12) hx hb hts hinX6 hown hK.1 hP 2 rfl rfl 2 (by decide) lkf89 (fun _ h9 => h9) rfl dX0_turned_50 ?_
      refine lv_iload_n hx hb dX0_turned_53 rfl (lv_at hl 1 rfl) ?_
      obtain ⟨hi3, h⟩ := gd_some h
      refine iald (q0 := 0) (t0 := 0) (j := x1.toNatClampNeg) hx hb hK hP 5 rfl rfl (ck_in hi3) dX0_turned_54 ?_
      refine lv_aload_n hx hb dX0_turned_55 rfl (lv_at hl 0 rfl) ?_
      refine va_get (D := D) (ci := 0) (v := .ref (a1 0)) (C := RX0) (T := TX0) (N := 2) hx hb hts hinX0 hown hK.1 hP 0 rfl rfl 0 (by decide) lkf15 (fun _ h9 => h9) rfl dX0_turned_56 ?_
      refine va_getN (D := D) (ci := 6) (v := .int (o1.1 7)) (C := RX6) (T := TX6) (N := 12) hx hb hts hinX6 hown hK.1 hP 2 rfl rfl 7 (by decide) lkf25 (fun _ h9 => h9) rfl dX0_turned_59 ?_
      obtain ⟨z4, hz4, h⟩ := bd_some h
      refine cR_SN (As := [.int (o1.2 2 x1.toNatClampNeg), .int (o1.1 7)]) (rest := []) ⟨hx, hb, hml, hown, hts⟩ (c_X7_isWithin l D cA  (o1.2 2 x1.toNatClampNeg) (o1.1 7) z4 hz4) ⟨va_cnB 2 hts gX0_turned_X7_isWithin_n64 rfl rfl rfl (hK.2 _ (List.mem_of_getElem? (i := 32) rfl) : va_Nw (Cond.methodLinkNest RX0 64 yX7_isWithin "TiedToTown") s) (hts (.initialized RX7) (List.mem_of_getElem? (i := 9) rfl)) hd_X7_isWithin.2 ⟨(Nat.le_of_ble_eq_true rfl), (Nat.le_of_ble_eq_true rfl)⟩, hts (.static yX7_isWithin) (List.mem_of_getElem? (i := 30) rfl), trivial⟩ hK hP [] rfl rfl hl.1 rfl (Nat.le_of_ble_eq_true rfl) dX0_turned_62 ⟨(Nat.le_of_ble_eq_true rfl), (Nat.le_of_ble_eq_true rfl)⟩ ?_
      refine lv_if_eq (tgt := 88) hx hb dX0_turned_65 (by decide) (fun hc => ?_) (fun hc => ?_)
      · have h := if_t hc h
        exact JP0_88 x1 x2 ls (lv_sub hl [1, 2] rfl) h
      · have h := if_f hc h
        refine lv_aload_n hx hb dX0_turned_68 rfl (lv_at hl 0 rfl) ?_
        refine va_get (D := D) (ci := 0) (v := .ref (a1 0)) (C := RX0) (T := TX0) (N := 2) hx hb hts hinX0 hown hK.1 hP 0 rfl rfl 0 (by decide) lkf15 (fun _ h9 => h9) rfl dX0_turned_69 ?_
        refine va_getN (D := D) (ci := 6) (v := .ref (a1 4)) (C := RX6) (T := TX6) (N := 12) hx hb hts hinX6 hown hK.1 hP 2 rfl rfl 3 (by decide) lkf73 (fun _ h9 => h9) rfl dX0_turned_72 ?_
        refine lv_iload_n hx hb dX0_turned_75 rfl (lv_at hl 1 rfl) ?_
        refine iald (q0 := 0) (t0 := 0) (j := x1.toNatClampNeg) hx hb hK hP 6 rfl rfl (ck_in hi3) dX0_turned_76 ?_
        refine lv_iload_n hx hb dX0_turned_77 rfl (lv_at hl 2 rfl) ?_
        obtain ⟨z5, hz5, h⟩ := bd_some h
        refine cR_SN (As := [.int (o1.2 3 x1.toNatClampNeg), .int x2]) (rest := []) ⟨hx, hb, hml, hown, hts⟩ (c_X7_isWithin l D cA  (o1.2 3 x1.toNatClampNeg) x2 z5 hz5) ⟨va_cnB 2 hts gX0_turned_X7_isWithin_n64 rfl rfl rfl (hK.2 _ (List.mem_of_getElem? (i := 32) rfl) : va_Nw (Cond.methodLinkNest RX0 64 yX7_isWithin "TiedToTown") s) (hts (.initialized RX7) (List.mem_of_getElem? (i := 9) rfl)) hd_X7_isWithin.2 ⟨(Nat.le_of_ble_eq_true rfl), (Nat.le_of_ble_eq_true rfl)⟩, hts (.static yX7_isWithin) (List.mem_of_getElem? (i := 30) rfl), trivial⟩ hK hP [] rfl rfl hl.1 rfl (Nat.le_of_ble_eq_true rfl) dX0_turned_78 ⟨(Nat.le_of_ble_eq_true rfl), (Nat.le_of_ble_eq_true rfl)⟩ ?_
        refine lv_if_eq (tgt := 88) hx hb dX0_turned_81 (by decide) (fun hc => ?_) (fun hc => ?_)
        · have h := if_t hc h
          exact JP0_88 x1 x2 ls (lv_sub hl [1, 2] rfl) h
        · have h := if_f hc h
          refine lv_iconst (v := (1 : Int32)) hx hb dX0_turned_84 (by decide) ?_
          refine lv_goto (tgt := 89) hx hb dX0_turned_85 (by decide) ?_
          exact JP0_89 (1 : Int32) x1 x2 ls (lv_sub hl [1, 2] rfl) h
    · have h := if_f hc h
      refine lv_aload_n hx hb dX0_turned_21 rfl (lv_at hl 0 rfl) ?_
      refine va_get (D := D) (ci := 0) (v := .ref (a1 0)) (C := RX0) (T := TX0) (N := 2) hx hb hts hinX0 hown hK.1 hP 0 rfl rfl 0 (by decide) lkf15 (fun _ h9 => h9) rfl dX0_turned_22 ?_
      refine lv_iload_n hx hb dX0_turned_25 rfl (lv_at hl 1 rfl) ?_
      refine lv_iload_n hx hb dX0_turned_26 rfl (lv_at hl 2 rfl) ?_
      obtain ⟨z6, hz6, h⟩ := bd_some h
      refine cR_V (As := [.int x1, .int x2]) (rest := []) ⟨hx, hb, hml, hown, hts⟩ (c_X6_mayToday l D cA a1 o1 x1 x2 z6 hz6) (cwV 2 hts gX0_turned_X6_mayToday rfl rfl rfl hd_X6_mayToday ⟨(Nat.le_of_ble_eq_true rfl), (Nat.le_of_ble_eq_true rfl)⟩) (recvK hK hP 2 6 rfl rfl) hK hP [2, 3, 4, 5, 6, 7, 8] rfl rfl hl.1 rfl (Nat.le_of_ble_eq_true rfl) dX0_turned_27 ⟨(Nat.le_of_ble_eq_true rfl), (Nat.le_of_ble_eq_true rfl)⟩ ?_
      refine lv_if_eq (tgt := 44) hx hb dX0_turned_30 (by decide) (fun hc => ?_) (fun hc => ?_)
      · have h := if_t hc h
        refine lv_iload_n hx hb dX0_turned_44 rfl (lv_at hl 2 rfl) ?_
        cases h
        exact hend _ _ dX0_turned_45
      · have h := if_f hc h
        refine lv_iload_n hx hb dX0_turned_33 rfl (lv_at hl 2 rfl) ?_
        refine lv_iload_n hx hb dX0_turned_34 rfl (lv_at hl 1 rfl) ?_
        obtain ⟨z7, hz7, h⟩ := bd_some h
        refine cR_SN (As := [.int x1]) (rest := [.int x2]) ⟨hx, hb, hml, hown, hts⟩ (c_X7_bit l D cA  x1 z7 hz7) ⟨va_cnB 1 hts gX0_turned_X7_bit_n39 rfl rfl rfl (hK.2 _ (List.mem_of_getElem? (i := 30) rfl) : va_Nw (Cond.methodLinkNest RX0 39 yX7_bit "TiedToTown") s) (hts (.initialized RX7) (List.mem_of_getElem? (i := 9) rfl)) hd_X7_bit.2 ⟨(Nat.le_of_ble_eq_true rfl), (Nat.le_of_ble_eq_true rfl)⟩, hts (.static yX7_bit) (List.mem_of_getElem? (i := 37) rfl), trivial⟩ hK hP [] rfl rfl hl.1 rfl (Nat.le_of_ble_eq_true rfl) dX0_turned_35 ⟨(Nat.le_of_ble_eq_true rfl), (Nat.le_of_ble_eq_true rfl)⟩ ?_
        refine lv_iconst (v := (-1 : Int32)) hx hb dX0_turned_38 (by decide) ?_
        refine lv_ixor hx hb dX0_turned_39 ?_
        refine lv_iand hx hb dX0_turned_40 ?_
        refine lv_goto (tgt := 45) hx hb dX0_turned_41 (by decide) ?_
        cases h
        exact hend _ _ dX0_turned_45
  · have h := if_t hc h
    refine lv_iload_n hx hb dX0_turned_11 rfl (lv_at hl 2 rfl) ?_
    cases h
    exact hend _ _ dX0_turned_12
abbrev rmX1_size : Room := ({ frames := 0, cells := 0, slots := 0, locals := 0 } : Room)
set_option maxHeartbeats 4000000 in
set_option maxRecDepth 100000 in
theorem c_X1_size (l : Launch) (D : va_G) (cA : ClassId) (a0 : (Nat → Nat)) (o0 : Ob) (r : Int32) (h : f_X1_size o0 = some r) : ConR l yX1_size wsX1_size rmX1_size D cA [.ref (a0 0)] (wX1 cA a0 o0) r := by
  refine ConR.enter (cc := cX1_size) (maxL := 1) (by decide) rfl (Nat.le_of_ble_eq_true rfl) ?_
  intro p e s m args below meth c Q hx hb hml hown hts hK hP  hend ls hl
  have hl : lv_has ls 1 [(0, .ref (a0 0))] := hl
  unfold f_X1_size at h
  have lkf21 := hts (.fieldLink RX1 21 "TiedToTown$Past" "size" "I") (List.mem_of_getElem? (i := 1) rfl)
  have hinX1 : ∀ w ∈ wsX10, w ∈ wsX1_size := fun w h => List.mem_cons_of_mem _ (List.mem_append_right _ h)
  refine lv_aload_n hx hb dX1_size_0 rfl (lv_at hl 0 rfl) ?_
  refine va_get (D := D) (ci := 1) (v := .int (o0.1 3)) (C := RX1) (T := TX1) (N := 4) hx hb hts hinX1 hown hK.1 hP 0 rfl rfl 3 (by decide) lkf21 (fun _ h9 => h9) rfl dX1_size_1 ?_
  cases h
  exact hend _ _ dX1_size_4
abbrev rmX1_empty : Room := ({ frames := 0, cells := 0, slots := 0, locals := 0 } : Room)
set_option maxHeartbeats 4000000 in
set_option maxRecDepth 100000 in
theorem c_X1_empty (l : Launch) (D : va_G) (cA : ClassId) (a0 : (Nat → Nat)) (o0 : Ob) (o0_ : Ob) (h : f_X1_empty o0 = some o0_) : ConV l yX1_empty wsX1_empty rmX1_empty D cA [.ref (a0 0)] (wX1 cA a0 o0) (wX1 cA a0 o0_) := by
  refine ConV.enter (cc := cX1_empty) (maxL := 1) (by decide) rfl (Nat.le_of_ble_eq_true rfl) ?_
  intro p e s m args below meth c Q A hx hb hml hown hts hK hP hD hA hend ls hl
  have hS : va_S A s.heap s.heap [] := va_S.rf
  have hl : lv_has ls 1 [(0, .ref (a0 0))] := hl
  unfold f_X1_empty at h
  have lkf21 := hts (.fieldLink RX1 21 "TiedToTown$Past" "size" "I") (List.mem_of_getElem? (i := 1) rfl)
  have hinX1 : ∀ w ∈ wsX10, w ∈ wsX1_empty := fun w h => List.mem_cons_of_mem _ (List.mem_append_right _ h)
  refine lv_aload_n hx hb dX1_empty_0 rfl (lv_at hl 0 rfl) ?_
  refine lv_iconst (v := (0 : Int32)) hx hb dX1_empty_1 (by decide) ?_
  refine va_put (D := D) (ci := 1) (v := .int (0 : Int32)) (ty := .int) (C := RX1) (T := TX1) (N := 4) hx hb hts hinX1 tyX1 tyX1_ok nmX1 hown hK.1 hP hD hS 0 rfl rfl 3 (by decide) lkf21 (fun _ h9 => h9) rfl (by decide +kernel) rfl rfl (Nat.le_of_ble_eq_true rfl) dX1_empty_2 (fun H locs hP hD hS => ?_)
  have hP : va_P D vwCl (wX1 cA a0 (sF o0 3 (0 : Int32))) H := hP
  have hD : va_D A (wX1 cA a0 (sF o0 3 (0 : Int32))) := hD
  obtain ⟨s1, es1⟩ : ∃ z, z = sF o0 3 (0 : Int32) := ⟨_, rfl⟩
  rw [← es1] at hP hD
  have h := nm_ap es1 h
  cases h
  exact hend _ _ _ _ hP hD hS dX1_empty_5
abbrev rmX1_forgetOldest : Room := ({ frames := 0, cells := 0, slots := 0, locals := 0 } : Room)
set_option maxHeartbeats 4000000 in
set_option maxRecDepth 100000 in
theorem c_X1_forgetOldest (l : Launch) (D : va_G) (cA : ClassId) (a0 : (Nat → Nat)) (o0 : Ob) (o0_ : Ob) (h : f_X1_forgetOldest o0 = some o0_) : ConV l yX1_forgetOldest wsX1_forgetOldest rmX1_forgetOldest D cA [.ref (a0 0)] (wX1 cA a0 o0) (wX1 cA a0 o0_) := by
  refine ConV.enter (cc := cX1_forgetOldest) (maxL := 2) (by decide) rfl (Nat.le_of_ble_eq_true rfl) ?_
  intro p e s m args below meth c Q A hx hb hml hown hts hK hP hD hA hend ls hl
  have hS : va_S A s.heap s.heap [] := va_S.rf
  have hl : lv_has ls 2 [(0, .ref (a0 0))] := hl
  unfold f_X1_forgetOldest at h
  have lkf9 := hts (.fieldLink RX1 9 "TiedToTown$Past" "knots" "[I") (List.mem_of_getElem? (i := 1) rfl)
  have hinX1 : ∀ w ∈ wsX10, w ∈ wsX1_forgetOldest := fun w h => List.mem_cons_of_mem _ (List.mem_append_right _ h)
  have lkf15 := hts (.fieldLink RX1 15 "TiedToTown$Past" "tied" "[I") (List.mem_of_getElem? (i := 2) rfl)
  have lkf18 := hts (.fieldLink RX1 18 "TiedToTown$Past" "day" "[I") (List.mem_of_getElem? (i := 3) rfl)
  have lkf21 := hts (.fieldLink RX1 21 "TiedToTown$Past" "size" "I") (List.mem_of_getElem? (i := 4) rfl)
  have LP2 : ∀ (n : Nat) (x1 : Int32) (o0 : Ob) (H : Heap) (locs : List Loc) (_ : va_P D vwCl (wX1 cA a0 o0) H) (_ : va_D A (wX1 cA a0 o0)) (_ : va_S A s.heap H locs) (ls : Array Slot) (_ : lv_has ls 2 [(0, .ref (a0 0)), (1, .int x1)]) (res : Ob) (_ : L_X1_forgetOldest_2 n x1 o0 = some res) (_ : (∀ (H : Heap) (locs : List Loc) (_ : va_P D vwCl (wX1 cA a0 res) H) (_ : va_D A (wX1 cA a0 res)) (_ : va_S A s.heap H locs) (ls : Array Slot), lv_has ls 2 [(0, .ref (a0 0))] → W p l e rmX1_forgetOldest s m args below meth c H locs 0 0 Q (F0 m 56 ls []))), W p l e rmX1_forgetOldest s m args below meth c H locs 0 0 Q (F0 m 2 ls []) := by
    intro n
    induction n with
    | zero =>
      intro x1 o0 H locs hP hD hS ls hl res h K0
      exact absurd h (fun q : (none : Option (Ob)) = some res => by cases q)
    | succ n ih =>
      intro x1 o0 H locs hP hD hS ls hl res h K0
      have h : L_X1_forgetOldest_2_step (L_X1_forgetOldest_2 n) x1 o0 = some res := h
      unfold L_X1_forgetOldest_2_step at h
      refine lv_iload_n hx hb dX1_forgetOldest_2 rfl (lv_at hl 1 rfl) ?_
      refine lv_bipush (v := (8 : Int32)) hx hb dX1_forgetOldest_3 (by decide) ?_
      refine lv_icmp_ge (tgt := 56) hx hb dX1_forgetOldest_5 (by decide) (fun hc => ?_) (fun hc => ?_)
      · have h := if_t hc h
        cases h
        exact K0 _ _ hP hD hS _ (lv_sub hl [0] rfl)
      · have h := if_f hc h
        refine lv_aload_n hx hb dX1_forgetOldest_8 rfl (lv_at hl 0 rfl) ?_
        refine va_get (D := D) (ci := 1) (v := .ref (a0 1)) (C := RX1) (T := TX1) (N := 4) hx hb hts hinX1 hown hK.1 hP 0 rfl rfl 0 (by decide) lkf9 (fun _ h9 => h9) rfl dX1_forgetOldest_9 ?_
        refine lv_iload_n hx hb dX1_forgetOldest_12 rfl (lv_at hl 1 rfl) ?_
        refine lv_iconst (v := (1 : Int32)) hx hb dX1_forgetOldest_13 (by decide) ?_
        refine lv_isub hx hb dX1_forgetOldest_14 ?_
        refine lv_aload_n hx hb dX1_forgetOldest_15 rfl (lv_at hl 0 rfl) ?_
        refine va_get (D := D) (ci := 1) (v := .ref (a0 1)) (C := RX1) (T := TX1) (N := 4) hx hb hts hinX1 hown hK.1 hP 0 rfl rfl 0 (by decide) lkf9 (fun _ h9 => h9) rfl dX1_forgetOldest_16 ?_
        refine lv_iload_n hx hb dX1_forgetOldest_19 rfl (lv_at hl 1 rfl) ?_
        obtain ⟨hi1, h⟩ := gd_some h
        refine iald (q0 := 0) (t0 := 0) (j := x1.toNatClampNeg) hx hb hK hP 1 rfl rfl (ck_in hi1) dX1_forgetOldest_20 ?_
        obtain ⟨hi2, h⟩ := gd_some h
        refine iast (j := (x1 - (1 : Int32)).toNatClampNeg) (wn := (wX1 cA a0 (sA o0 0 (x1 - (1 : Int32)).toNatClampNeg (o0.2 0 x1.toNatClampNeg)))) hx hb hK hP hD hS 1 rfl rfl (ck_in hi2) dX1_forgetOldest_21 rfl (fun H locs hP hD hS => ?_)
        obtain ⟨s3, es3⟩ : ∃ z, z = sA o0 0 (x1 - (1 : Int32)).toNatClampNeg (o0.2 0 x1.toNatClampNeg) := ⟨_, rfl⟩
        rw [← es3] at hP hD
        have h := nm_ap es3 h
        refine lv_aload_n hx hb dX1_forgetOldest_22 rfl (lv_at hl 0 rfl) ?_
        refine va_get (D := D) (ci := 1) (v := .ref (a0 2)) (C := RX1) (T := TX1) (N := 4) hx hb hts hinX1 hown hK.1 hP 0 rfl rfl 1 (by decide) lkf15 (fun _ h9 => h9) rfl dX1_forgetOldest_23 ?_
        refine lv_iload_n hx hb dX1_forgetOldest_26 rfl (lv_at hl 1 rfl) ?_
        refine lv_iconst (v := (1 : Int32)) hx hb dX1_forgetOldest_27 (by decide) ?_
        refine lv_isub hx hb dX1_forgetOldest_28 ?_
        refine lv_aload_n hx hb dX1_forgetOldest_29 rfl (lv_at hl 0 rfl) ?_
        refine va_get (D := D) (ci := 1) (v := .ref (a0 2)) (C := RX1) (T := TX1) (N := 4) hx hb hts hinX1 hown hK.1 hP 0 rfl rfl 1 (by decide) lkf15 (fun _ h9 => h9) rfl dX1_forgetOldest_30 ?_
        refine lv_iload_n hx hb dX1_forgetOldest_33 rfl (lv_at hl 1 rfl) ?_
        refine iald (q0 := 0) (t0 := 0) (j := x1.toNatClampNeg) hx hb hK hP 2 rfl rfl (ck_in hi1) dX1_forgetOldest_34 ?_
        refine iast (j := (x1 - (1 : Int32)).toNatClampNeg) (wn := (wX1 cA a0 (sA s3 1 (x1 - (1 : Int32)).toNatClampNeg (s3.2 1 x1.toNatClampNeg)))) hx hb hK hP hD hS 2 rfl rfl (ck_in hi2) dX1_forgetOldest_35 rfl (fun H locs hP hD hS => ?_)
        obtain ⟨s4, es4⟩ : ∃ z, z = sA s3 1 (x1 - (1 : Int32)).toNatClampNeg (s3.2 1 x1.toNatClampNeg) := ⟨_, rfl⟩
        rw [← es4] at hP hD
        have h := nm_ap es4 h
        refine lv_aload_n hx hb dX1_forgetOldest_36 rfl (lv_at hl 0 rfl) ?_
        refine va_get (D := D) (ci := 1) (v := .ref (a0 3)) (C := RX1) (T := TX1) (N := 4) hx hb hts hinX1 hown hK.1 hP 0 rfl rfl 2 (by decide) lkf18 (fun _ h9 => h9) rfl dX1_forgetOldest_37 ?_
        refine lv_iload_n hx hb dX1_forgetOldest_40 rfl (lv_at hl 1 rfl) ?_
        refine lv_iconst (v := (1 : Int32)) hx hb dX1_forgetOldest_41 (by decide) ?_
        refine lv_isub hx hb dX1_forgetOldest_42 ?_
        refine lv_aload_n hx hb dX1_forgetOldest_43 rfl (lv_at hl 0 rfl) ?_
        refine va_get (D := D) (ci := 1) (v := .ref (a0 3)) (C := RX1) (T := TX1) (N := 4) hx hb hts hinX1 hown hK.1 hP 0 rfl rfl 2 (by decide) lkf18 (fun _ h9 => h9) rfl dX1_forgetOldest_44 ?_
        refine lv_iload_n hx hb dX1_forgetOldest_47 rfl (lv_at hl 1 rfl) ?_
        refine iald (q0 := 0) (t0 := 0) (j := x1.toNatClampNeg) hx hb hK hP 3 rfl rfl (ck_in hi1) dX1_forgetOldest_48 ?_
        refine iast (j := (x1 - (1 : Int32)).toNatClampNeg) (wn := (wX1 cA a0 (sA s4 2 (x1 - (1 : Int32)).toNatClampNeg (s4.2 2 x1.toNatClampNeg)))) hx hb hK hP hD hS 3 rfl rfl (ck_in hi2) dX1_forgetOldest_49 rfl (fun H locs hP hD hS => ?_)
        obtain ⟨s5, es5⟩ : ∃ z, z = sA s4 2 (x1 - (1 : Int32)).toNatClampNeg (s4.2 2 x1.toNatClampNeg) := ⟨_, rfl⟩
        rw [← es5] at hP hD
        have h := nm_ap es5 h
        obtain ⟨v6, ev6⟩ : ∃ y : Int32, y = x1 + (1 : Int32) := ⟨_, rfl⟩
        refine lv_iinc (v := v6) (lv' := [(1, .int v6), (0, .ref (a0 0))]) hx hb dX1_forgetOldest_50 hl (k := 1) rfl (by rw [ev6]; rfl) (by decide) rfl (fun ls hl => ?_)
        have h := nm_ap ev6 h
        refine lv_goto (tgt := 2) hx hb dX1_forgetOldest_53 (by decide) ?_
        exact ih v6 s5 _ _ hP hD hS ls (lv_sub hl [1, 0] rfl) _ h K0
  refine lv_iconst (v := (1 : Int32)) hx hb dX1_forgetOldest_0 (by decide) ?_
  refine lv_istore_n (lv' := [(1, .int (1 : Int32)), (0, .ref (a0 0))]) hx hb dX1_forgetOldest_1 rfl hl (by decide) rfl (fun ls hl => ?_)
  obtain ⟨z1, hz1, h⟩ := bd_some h
  refine LP2 512 (1 : Int32) o0 _ _ hP hD hS ls (lv_sub hl [1, 0] rfl) _ hz1 ?_
  · intro H locs hP hD hS ls hl
    refine lv_aload_n hx hb dX1_forgetOldest_56 rfl (lv_at hl 0 rfl) ?_
    refine lv_bipush (v := (7 : Int32)) hx hb dX1_forgetOldest_57 (by decide) ?_
    refine va_put (D := D) (ci := 1) (v := .int (7 : Int32)) (ty := .int) (C := RX1) (T := TX1) (N := 4) hx hb hts hinX1 tyX1 tyX1_ok nmX1 hown hK.1 hP hD hS 0 rfl rfl 3 (by decide) lkf21 (fun _ h9 => h9) rfl (by decide +kernel) rfl rfl (Nat.le_of_ble_eq_true rfl) dX1_forgetOldest_59 (fun H locs hP hD hS => ?_)
    have hP : va_P D vwCl (wX1 cA a0 (sF z1 3 (7 : Int32))) H := hP
    have hD : va_D A (wX1 cA a0 (sF z1 3 (7 : Int32))) := hD
    obtain ⟨s2, es2⟩ : ∃ z, z = sF z1 3 (7 : Int32) := ⟨_, rfl⟩
    rw [← es2] at hP hD
    have h := nm_ap es2 h
    cases h
    exact hend _ _ _ _ hP hD hS dX1_forgetOldest_62
abbrev rmX1_note : Room := ({ frames := 1, cells := 0, slots := 0, locals := 21 } : Room)
set_option maxHeartbeats 4000000 in
set_option maxRecDepth 100000 in
theorem c_X1_note (l : Launch) (D : va_G) (cA : ClassId) (a0 : (Nat → Nat)) (o0 : Ob) (a1 : (Nat → Nat)) (o1 : Ob) (o0_ : Ob) (h : f_X1_note o0 o1 = some o0_) : ConV l yX1_note wsX1_note rmX1_note D cA [.ref (a0 0), .ref (a1 0)] (wX1 cA a0 o0 ++ wX6 cA a1 o1) (wX1 cA a0 o0_ ++ wX6 cA a1 o1) := by
  refine ConV.enter (cc := cX1_note) (maxL := 2) (by decide) rfl (Nat.le_of_ble_eq_true rfl) ?_
  intro p e s m args below meth c Q A hx hb hml hown hts hK hP hD hA hend ls hl
  have hS : va_S A s.heap s.heap [] := va_S.rf
  have hl : lv_has ls 2 [(0, .ref (a0 0)), (1, .ref (a1 0))] := hl
  unfold f_X1_note at h
  have lkf21 := hts (.fieldLink RX1 21 "TiedToTown$Past" "size" "I") (List.mem_of_getElem? (i := 1) rfl)
  have hinX1 : ∀ w ∈ wsX10, w ∈ wsX1_note := fun w h => List.mem_cons_of_mem _ (List.mem_append_left _ (List.mem_append_right _ h))
  have lkf9 := hts (.fieldLink RX1 9 "TiedToTown$Past" "knots" "[I") (List.mem_of_getElem? (i := 2) rfl)
  have lkf28 := va_Nw.use (w := Cond.fieldLinkNest RX1 28 "TiedToTown$Town" "knots" "I" "TiedToTown") rfl (A := args) (hK.2 _ (List.mem_of_getElem? (i := 15) rfl))
  have hinX6 : ∀ w ∈ wsX60, w ∈ wsX1_note := fun w h => List.mem_cons_of_mem _ (List.mem_append_right _ h)
  have lkf15 := hts (.fieldLink RX1 15 "TiedToTown$Past" "tied" "[I") (List.mem_of_getElem? (i := 3) rfl)
  have lkf32 := va_Nw.use (w := Cond.fieldLinkNest RX1 32 "TiedToTown$Town" "tied" "I" "TiedToTown") rfl (A := args) (hK.2 _ (List.mem_of_getElem? (i := 19) rfl))
  have lkf18 := hts (.fieldLink RX1 18 "TiedToTown$Past" "day" "[I") (List.mem_of_getElem? (i := 4) rfl)
  have lkf34 := va_Nw.use (w := Cond.fieldLinkNest RX1 34 "TiedToTown$Town" "day" "I" "TiedToTown") rfl (A := args) (hK.2 _ (List.mem_of_getElem? (i := 22) rfl))
  have JP0_13 : ∀ (o0 : Ob) (H : Heap) (locs : List Loc) (_ : va_P D vwCl (wX1 cA a0 o0 ++ wX6 cA a1 o1) H) (_ : va_D A (wX1 cA a0 o0 ++ wX6 cA a1 o1)) (_ : va_S A s.heap H locs) (ls : Array Slot) (_ : lv_has ls 2 [(0, .ref (a0 0)), (1, .ref (a1 0))]) (_ : J_X1_note_13 o0 o1 = some o0_), W p l e rmX1_note s m args below meth c H locs 0 0 Q (F0 m 13 ls []) := by
    intro o0 H locs hP hD hS ls hl h
    unfold J_X1_note_13 at h
    refine lv_aload_n hx hb dX1_note_13 rfl (lv_at hl 0 rfl) ?_
    refine va_get (D := D) (ci := 1) (v := .ref (a0 1)) (C := RX1) (T := TX1) (N := 4) hx hb hts hinX1 hown hK.1 hP 0 rfl rfl 0 (by decide) lkf9 (fun _ h9 => h9) rfl dX1_note_14 ?_
    refine lv_aload_n hx hb dX1_note_17 rfl (lv_at hl 0 rfl) ?_
    refine va_get (D := D) (ci := 1) (v := .int (o0.1 3)) (C := RX1) (T := TX1) (N := 4) hx hb hts hinX1 hown hK.1 hP 0 rfl rfl 3 (by decide) lkf21 (fun _ h9 => h9) rfl dX1_note_18 ?_
    refine lv_aload_n hx hb dX1_note_21 rfl (lv_at hl 1 rfl) ?_
    refine va_getN (D := D) (ci := 6) (v := .int (o1.1 9)) (C := RX6) (T := TX6) (N := 12) hx hb hts hinX6 hown hK.1 hP 4 rfl rfl 9 (by decide) lkf28 (fun _ h9 => h9) rfl dX1_note_22 ?_
    obtain ⟨hi1, h⟩ := gd_some h
    refine iast (j := (o0.1 3).toNatClampNeg) (wn := (wX1 cA a0 (sA o0 0 (o0.1 3).toNatClampNeg (o1.1 9)) ++ wX6 cA a1 o1)) hx hb hK hP hD hS 1 rfl rfl (ck_in hi1) dX1_note_25 rfl (fun H locs hP hD hS => ?_)
    obtain ⟨s2, es2⟩ : ∃ z, z = sA o0 0 (o0.1 3).toNatClampNeg (o1.1 9) := ⟨_, rfl⟩
    rw [← es2] at hP hD
    have h := nm_ap es2 h
    refine lv_aload_n hx hb dX1_note_26 rfl (lv_at hl 0 rfl) ?_
    refine va_get (D := D) (ci := 1) (v := .ref (a0 2)) (C := RX1) (T := TX1) (N := 4) hx hb hts hinX1 hown hK.1 hP 0 rfl rfl 1 (by decide) lkf15 (fun _ h9 => h9) rfl dX1_note_27 ?_
    refine lv_aload_n hx hb dX1_note_30 rfl (lv_at hl 0 rfl) ?_
    refine va_get (D := D) (ci := 1) (v := .int (s2.1 3)) (C := RX1) (T := TX1) (N := 4) hx hb hts hinX1 hown hK.1 hP 0 rfl rfl 3 (by decide) lkf21 (fun _ h9 => h9) rfl dX1_note_31 ?_
    refine lv_aload_n hx hb dX1_note_34 rfl (lv_at hl 1 rfl) ?_
    refine va_getN (D := D) (ci := 6) (v := .int (o1.1 10)) (C := RX6) (T := TX6) (N := 12) hx hb hts hinX6 hown hK.1 hP 4 rfl rfl 10 (by decide) lkf32 (fun _ h9 => h9) rfl dX1_note_35 ?_
    obtain ⟨hi3, h⟩ := gd_some h
    refine iast (j := (s2.1 3).toNatClampNeg) (wn := (wX1 cA a0 (sA s2 1 (s2.1 3).toNatClampNeg (o1.1 10)) ++ wX6 cA a1 o1)) hx hb hK hP hD hS 2 rfl rfl (ck_in hi3) dX1_note_38 rfl (fun H locs hP hD hS => ?_)
    obtain ⟨s4, es4⟩ : ∃ z, z = sA s2 1 (s2.1 3).toNatClampNeg (o1.1 10) := ⟨_, rfl⟩
    rw [← es4] at hP hD
    have h := nm_ap es4 h
    refine lv_aload_n hx hb dX1_note_39 rfl (lv_at hl 0 rfl) ?_
    refine va_get (D := D) (ci := 1) (v := .ref (a0 3)) (C := RX1) (T := TX1) (N := 4) hx hb hts hinX1 hown hK.1 hP 0 rfl rfl 2 (by decide) lkf18 (fun _ h9 => h9) rfl dX1_note_40 ?_
    refine lv_aload_n hx hb dX1_note_43 rfl (lv_at hl 0 rfl) ?_
    refine va_get (D := D) (ci := 1) (v := .int (s4.1 3)) (C := RX1) (T := TX1) (N := 4) hx hb hts hinX1 hown hK.1 hP 0 rfl rfl 3 (by decide) lkf21 (fun _ h9 => h9) rfl dX1_note_44 ?_
    refine lv_aload_n hx hb dX1_note_47 rfl (lv_at hl 1 rfl) ?_
    refine va_getN (D := D) (ci := 6) (v := .int (o1.1 11)) (C := RX6) (T := TX6) (N := 12) hx hb hts hinX6 hown hK.1 hP 4 rfl rfl 11 (by decide) lkf34 (fun _ h9 => h9) rfl dX1_note_48 ?_
    obtain ⟨hi5, h⟩ := gd_some h
    refine iast (j := (s4.1 3).toNatClampNeg) (wn := (wX1 cA a0 (sA s4 2 (s4.1 3).toNatClampNeg (o1.1 11)) ++ wX6 cA a1 o1)) hx hb hK hP hD hS 3 rfl rfl (ck_in hi5) dX1_note_51 rfl (fun H locs hP hD hS => ?_)
    obtain ⟨s6, es6⟩ : ∃ z, z = sA s4 2 (s4.1 3).toNatClampNeg (o1.1 11) := ⟨_, rfl⟩
    rw [← es6] at hP hD
    have h := nm_ap es6 h
    refine lv_aload_n hx hb dX1_note_52 rfl (lv_at hl 0 rfl) ?_
    refine lv_dup hx hb dX1_note_53 rfl ?_
    refine va_get (D := D) (ci := 1) (v := .int (s6.1 3)) (C := RX1) (T := TX1) (N := 4) hx hb hts hinX1 hown hK.1 hP 0 rfl rfl 3 (by decide) lkf21 (fun _ h9 => h9) rfl dX1_note_54 ?_
    refine lv_iconst (v := (1 : Int32)) hx hb dX1_note_57 (by decide) ?_
    refine lv_iadd hx hb dX1_note_58 ?_
    refine va_put (D := D) (ci := 1) (v := .int ((s6.1 3) + (1 : Int32))) (ty := .int) (C := RX1) (T := TX1) (N := 4) hx hb hts hinX1 tyX1 tyX1_ok nmX1 hown hK.1 hP hD hS 0 rfl rfl 3 (by decide) lkf21 (fun _ h9 => h9) rfl (by decide +kernel) rfl rfl (Nat.le_of_ble_eq_true rfl) dX1_note_59 (fun H locs hP hD hS => ?_)
    have hP : va_P D vwCl (wX1 cA a0 (sF s6 3 ((s6.1 3) + (1 : Int32))) ++ wX6 cA a1 o1) H := hP
    have hD : va_D A (wX1 cA a0 (sF s6 3 ((s6.1 3) + (1 : Int32))) ++ wX6 cA a1 o1) := hD
    obtain ⟨s7, es7⟩ : ∃ z, z = sF s6 3 ((s6.1 3) + (1 : Int32)) := ⟨_, rfl⟩
    rw [← es7] at hP hD
    have h := nm_ap es7 h
    cases h
    exact hend _ _ _ _ hP hD hS dX1_note_62
  refine lv_aload_n hx hb dX1_note_0 rfl (lv_at hl 0 rfl) ?_
  refine va_get (D := D) (ci := 1) (v := .int (o0.1 3)) (C := RX1) (T := TX1) (N := 4) hx hb hts hinX1 hown hK.1 hP 0 rfl rfl 3 (by decide) lkf21 (fun _ h9 => h9) rfl dX1_note_1 ?_
  refine lv_bipush (v := (8 : Int32)) hx hb dX1_note_4 (by decide) ?_
  refine lv_icmp_lt (tgt := 13) hx hb dX1_note_6 (by decide) (fun hc => ?_) (fun hc => ?_)
  · have h := if_t hc h
    exact JP0_13 o0 _ _ hP hD hS ls (lv_sub hl [0, 1] rfl) h
  · have h := if_f hc h
    refine lv_aload_n hx hb dX1_note_9 rfl (lv_at hl 0 rfl) ?_
    obtain ⟨z1, hz1, h⟩ := bd_some h
    refine cV_V (As := []) (rest := []) (wn := (wX1 cA a0 z1 ++ wX6 cA a1 o1)) ⟨hx, hb, hml, hown, hts⟩ (c_X1_forgetOldest l D cA a0 o0   z1 hz1) (cwV 0 hts gX1_note_X1_forgetOldest rfl rfl rfl hd_X1_forgetOldest ⟨(Nat.le_of_ble_eq_true rfl), (Nat.le_of_ble_eq_true rfl)⟩) (recvK hK hP 0 1 rfl rfl) hK hP hD hS hA [0, 1, 2, 3] [4, 5, 6, 7, 8, 9, 10] [7, 8, 9, 10, 0, 1, 2, 3, 4, 5, 6] rfl rfl rfl rfl rfl rfl rfl rfl hl.1 rfl (Nat.le_of_ble_eq_true rfl) dX1_note_10 ⟨(Nat.le_of_ble_eq_true rfl), (Nat.le_of_ble_eq_true rfl)⟩ (fun H locs hP hD hS => ?_)
    exact JP0_13 z1 _ _ hP hD hS ls (lv_sub hl [0, 1] rfl) h
abbrev rmX1_restore : Room := ({ frames := 0, cells := 0, slots := 0, locals := 0 } : Room)
set_option maxHeartbeats 4000000 in
set_option maxRecDepth 100000 in
theorem c_X1_restore (l : Launch) (D : va_G) (cA : ClassId) (a0 : (Nat → Nat)) (o0 : Ob) (a1 : (Nat → Nat)) (o1 : Ob) (o0_ : Ob) (o1_ : Ob) (h : f_X1_restore o0 o1 = some (o0_, o1_)) : ConV l yX1_restore wsX1_restore rmX1_restore D cA [.ref (a0 0), .ref (a1 0)] (wX1 cA a0 o0 ++ wX6 cA a1 o1) (wX1 cA a0 o0_ ++ wX6 cA a1 o1_) := by
  refine ConV.enter (cc := cX1_restore) (maxL := 2) (by decide) rfl (Nat.le_of_ble_eq_true rfl) ?_
  intro p e s m args below meth c Q A hx hb hml hown hts hK hP hD hA hend ls hl
  have hS : va_S A s.heap s.heap [] := va_S.rf
  have hl : lv_has ls 2 [(0, .ref (a0 0)), (1, .ref (a1 0))] := hl
  unfold f_X1_restore at h
  have lkf21 := hts (.fieldLink RX1 21 "TiedToTown$Past" "size" "I") (List.mem_of_getElem? (i := 1) rfl)
  have hinX1 : ∀ w ∈ wsX10, w ∈ wsX1_restore := fun w h => List.mem_cons_of_mem _ (List.mem_append_left _ (List.mem_append_right _ h))
  have lkf9 := hts (.fieldLink RX1 9 "TiedToTown$Past" "knots" "[I") (List.mem_of_getElem? (i := 2) rfl)
  have lkf28 := va_Nw.use (w := Cond.fieldLinkNest RX1 28 "TiedToTown$Town" "knots" "I" "TiedToTown") rfl (A := args) (hK.2 _ (List.mem_of_getElem? (i := 15) rfl))
  have hinX6 : ∀ w ∈ wsX60, w ∈ wsX1_restore := fun w h => List.mem_cons_of_mem _ (List.mem_append_right _ h)
  have lkf15 := hts (.fieldLink RX1 15 "TiedToTown$Past" "tied" "[I") (List.mem_of_getElem? (i := 3) rfl)
  have lkf32 := va_Nw.use (w := Cond.fieldLinkNest RX1 32 "TiedToTown$Town" "tied" "I" "TiedToTown") rfl (A := args) (hK.2 _ (List.mem_of_getElem? (i := 19) rfl))
  have lkf18 := hts (.fieldLink RX1 18 "TiedToTown$Past" "day" "[I") (List.mem_of_getElem? (i := 4) rfl)
  have lkf34 := va_Nw.use (w := Cond.fieldLinkNest RX1 34 "TiedToTown$Town" "day" "I" "TiedToTown") rfl (A := args) (hK.2 _ (List.mem_of_getElem? (i := 22) rfl))
  refine lv_aload_n hx hb dX1_restore_0 rfl (lv_at hl 0 rfl) ?_
  refine va_get (D := D) (ci := 1) (v := .int (o0.1 3)) (C := RX1) (T := TX1) (N := 4) hx hb hts hinX1 hown hK.1 hP 0 rfl rfl 3 (by decide) lkf21 (fun _ h9 => h9) rfl dX1_restore_1 ?_
  refine lv_iconst (v := (1 : Int32)) hx hb dX1_restore_4 (by decide) ?_
  refine lv_icmp_ge (tgt := 9) hx hb dX1_restore_5 (by decide) (fun hc => ?_) (fun hc => ?_)
  · have h := if_t hc h
    refine lv_aload_n hx hb dX1_restore_9 rfl (lv_at hl 0 rfl) ?_
    refine lv_dup hx hb dX1_restore_10 rfl ?_
    refine va_get (D := D) (ci := 1) (v := .int (o0.1 3)) (C := RX1) (T := TX1) (N := 4) hx hb hts hinX1 hown hK.1 hP 0 rfl rfl 3 (by decide) lkf21 (fun _ h9 => h9) rfl dX1_restore_11 ?_
    refine lv_iconst (v := (1 : Int32)) hx hb dX1_restore_14 (by decide) ?_
    refine lv_isub hx hb dX1_restore_15 ?_
    refine va_put (D := D) (ci := 1) (v := .int ((o0.1 3) - (1 : Int32))) (ty := .int) (C := RX1) (T := TX1) (N := 4) hx hb hts hinX1 tyX1 tyX1_ok nmX1 hown hK.1 hP hD hS 0 rfl rfl 3 (by decide) lkf21 (fun _ h9 => h9) rfl (by decide +kernel) rfl rfl (Nat.le_of_ble_eq_true rfl) dX1_restore_16 (fun H locs hP hD hS => ?_)
    have hP : va_P D vwCl (wX1 cA a0 (sF o0 3 ((o0.1 3) - (1 : Int32))) ++ wX6 cA a1 o1) H := hP
    have hD : va_D A (wX1 cA a0 (sF o0 3 ((o0.1 3) - (1 : Int32))) ++ wX6 cA a1 o1) := hD
    obtain ⟨s1, es1⟩ : ∃ z, z = sF o0 3 ((o0.1 3) - (1 : Int32)) := ⟨_, rfl⟩
    rw [← es1] at hP hD
    have h := nm_ap es1 h
    refine lv_aload_n hx hb dX1_restore_19 rfl (lv_at hl 1 rfl) ?_
    refine lv_aload_n hx hb dX1_restore_20 rfl (lv_at hl 0 rfl) ?_
    refine va_get (D := D) (ci := 1) (v := .ref (a0 1)) (C := RX1) (T := TX1) (N := 4) hx hb hts hinX1 hown hK.1 hP 0 rfl rfl 0 (by decide) lkf9 (fun _ h9 => h9) rfl dX1_restore_21 ?_
    refine lv_aload_n hx hb dX1_restore_24 rfl (lv_at hl 0 rfl) ?_
    refine va_get (D := D) (ci := 1) (v := .int (s1.1 3)) (C := RX1) (T := TX1) (N := 4) hx hb hts hinX1 hown hK.1 hP 0 rfl rfl 3 (by decide) lkf21 (fun _ h9 => h9) rfl dX1_restore_25 ?_
    obtain ⟨hi2, h⟩ := gd_some h
    refine iald (q0 := 0) (t0 := 0) (j := (s1.1 3).toNatClampNeg) hx hb hK hP 1 rfl rfl (ck_in hi2) dX1_restore_28 ?_
    refine va_putN (D := D) (ci := 6) (v := .int (s1.2 0 (s1.1 3).toNatClampNeg)) (ty := .int) (C := RX6) (T := TX6) (N := 12) hx hb hts hinX6 tyX6 tyX6_ok nmX6 hown hK.1 hP hD hS 4 rfl rfl 9 (by decide) lkf28 (fun _ h9 => h9) rfl (by decide +kernel) rfl rfl (Nat.le_of_ble_eq_true rfl) dX1_restore_29 (fun H locs hP hD hS => ?_)
    have hP : va_P D vwCl (wX1 cA a0 s1 ++ wX6 cA a1 (sF o1 9 (s1.2 0 (s1.1 3).toNatClampNeg))) H := hP
    have hD : va_D A (wX1 cA a0 s1 ++ wX6 cA a1 (sF o1 9 (s1.2 0 (s1.1 3).toNatClampNeg))) := hD
    obtain ⟨s3, es3⟩ : ∃ z, z = sF o1 9 (s1.2 0 (s1.1 3).toNatClampNeg) := ⟨_, rfl⟩
    rw [← es3] at hP hD
    have h := nm_ap es3 h
    refine lv_aload_n hx hb dX1_restore_32 rfl (lv_at hl 1 rfl) ?_
    refine lv_aload_n hx hb dX1_restore_33 rfl (lv_at hl 0 rfl) ?_
    refine va_get (D := D) (ci := 1) (v := .ref (a0 2)) (C := RX1) (T := TX1) (N := 4) hx hb hts hinX1 hown hK.1 hP 0 rfl rfl 1 (by decide) lkf15 (fun _ h9 => h9) rfl dX1_restore_34 ?_
    refine lv_aload_n hx hb dX1_restore_37 rfl (lv_at hl 0 rfl) ?_
    refine va_get (D := D) (ci := 1) (v := .int (s1.1 3)) (C := RX1) (T := TX1) (N := 4) hx hb hts hinX1 hown hK.1 hP 0 rfl rfl 3 (by decide) lkf21 (fun _ h9 => h9) rfl dX1_restore_38 ?_
    refine iald (q0 := 0) (t0 := 0) (j := (s1.1 3).toNatClampNeg) hx hb hK hP 2 rfl rfl (ck_in hi2) dX1_restore_41 ?_
    refine va_putN (D := D) (ci := 6) (v := .int (s1.2 1 (s1.1 3).toNatClampNeg)) (ty := .int) (C := RX6) (T := TX6) (N := 12) hx hb hts hinX6 tyX6 tyX6_ok nmX6 hown hK.1 hP hD hS 4 rfl rfl 10 (by decide) lkf32 (fun _ h9 => h9) rfl (by decide +kernel) rfl rfl (Nat.le_of_ble_eq_true rfl) dX1_restore_42 (fun H locs hP hD hS => ?_)
    have hP : va_P D vwCl (wX1 cA a0 s1 ++ wX6 cA a1 (sF s3 10 (s1.2 1 (s1.1 3).toNatClampNeg))) H := hP
    have hD : va_D A (wX1 cA a0 s1 ++ wX6 cA a1 (sF s3 10 (s1.2 1 (s1.1 3).toNatClampNeg))) := hD
    obtain ⟨s4, es4⟩ : ∃ z, z = sF s3 10 (s1.2 1 (s1.1 3).toNatClampNeg) := ⟨_, rfl⟩
    rw [← es4] at hP hD
    have h := nm_ap es4 h
    refine lv_aload_n hx hb dX1_restore_45 rfl (lv_at hl 1 rfl) ?_
    refine lv_aload_n hx hb dX1_restore_46 rfl (lv_at hl 0 rfl) ?_
    refine va_get (D := D) (ci := 1) (v := .ref (a0 3)) (C := RX1) (T := TX1) (N := 4) hx hb hts hinX1 hown hK.1 hP 0 rfl rfl 2 (by decide) lkf18 (fun _ h9 => h9) rfl dX1_restore_47 ?_
    refine lv_aload_n hx hb dX1_restore_50 rfl (lv_at hl 0 rfl) ?_
    refine va_get (D := D) (ci := 1) (v := .int (s1.1 3)) (C := RX1) (T := TX1) (N := 4) hx hb hts hinX1 hown hK.1 hP 0 rfl rfl 3 (by decide) lkf21 (fun _ h9 => h9) rfl dX1_restore_51 ?_
    refine iald (q0 := 0) (t0 := 0) (j := (s1.1 3).toNatClampNeg) hx hb hK hP 3 rfl rfl (ck_in hi2) dX1_restore_54 ?_
    refine va_putN (D := D) (ci := 6) (v := .int (s1.2 2 (s1.1 3).toNatClampNeg)) (ty := .int) (C := RX6) (T := TX6) (N := 12) hx hb hts hinX6 tyX6 tyX6_ok nmX6 hown hK.1 hP hD hS 4 rfl rfl 11 (by decide) lkf34 (fun _ h9 => h9) rfl (by decide +kernel) rfl rfl (Nat.le_of_ble_eq_true rfl) dX1_restore_55 (fun H locs hP hD hS => ?_)
    have hP : va_P D vwCl (wX1 cA a0 s1 ++ wX6 cA a1 (sF s4 11 (s1.2 2 (s1.1 3).toNatClampNeg))) H := hP
    have hD : va_D A (wX1 cA a0 s1 ++ wX6 cA a1 (sF s4 11 (s1.2 2 (s1.1 3).toNatClampNeg))) := hD
    obtain ⟨s5, es5⟩ : ∃ z, z = sF s4 11 (s1.2 2 (s1.1 3).toNatClampNeg) := ⟨_, rfl⟩
    rw [← es5] at hP hD
    have h := nm_ap es5 h
    cases h
    exact hend _ _ _ _ hP hD hS dX1_restore_58
  · have h := if_f hc h
    cases h
    exact hend _ _ _ _ hP hD hS dX1_restore_8
abbrev rmX6_empty : Room := ({ frames := 0, cells := 0, slots := 0, locals := 0 } : Room)
set_option maxHeartbeats 4000000 in
set_option maxRecDepth 100000 in
theorem c_X6_empty (l : Launch) (D : va_G) (cA : ClassId) (a0 : (Nat → Nat)) (o0 : Ob) (o0_ : Ob) (h : f_X6_empty o0 = some o0_) : ConV l yX6_empty wsX6_empty rmX6_empty D cA [.ref (a0 0)] (wX6 cA a0 o0) (wX6 cA a0 o0_) := by
  refine ConV.enter (cc := cX6_empty) (maxL := 1) (by decide) rfl (Nat.le_of_ble_eq_true rfl) ?_
  intro p e s m args below meth c Q A hx hb hml hown hts hK hP hD hA hend ls hl
  have hS : va_S A s.heap s.heap [] := va_S.rf
  have hl : lv_has ls 1 [(0, .ref (a0 0))] := hl
  unfold f_X6_empty at h
  have lkf30 := hts (.fieldLink RX6 30 "TiedToTown$Town" "persons" "I") (List.mem_of_getElem? (i := 1) rfl)
  have hinX6 : ∀ w ∈ wsX60, w ∈ wsX6_empty := fun w h => List.mem_cons_of_mem _ (List.mem_append_right _ h)
  have lkf34 := hts (.fieldLink RX6 34 "TiedToTown$Town" "alive" "I") (List.mem_of_getElem? (i := 2) rfl)
  have lkf37 := hts (.fieldLink RX6 37 "TiedToTown$Town" "law" "I") (List.mem_of_getElem? (i := 3) rfl)
  have lkf40 := hts (.fieldLink RX6 40 "TiedToTown$Town" "knots" "I") (List.mem_of_getElem? (i := 4) rfl)
  have lkf43 := hts (.fieldLink RX6 43 "TiedToTown$Town" "tied" "I") (List.mem_of_getElem? (i := 5) rfl)
  have lkf46 := hts (.fieldLink RX6 46 "TiedToTown$Town" "day" "I") (List.mem_of_getElem? (i := 6) rfl)
  refine lv_aload_n hx hb dX6_empty_0 rfl (lv_at hl 0 rfl) ?_
  refine lv_iconst (v := (0 : Int32)) hx hb dX6_empty_1 (by decide) ?_
  refine va_put (D := D) (ci := 6) (v := .int (0 : Int32)) (ty := .int) (C := RX6) (T := TX6) (N := 12) hx hb hts hinX6 tyX6 tyX6_ok nmX6 hown hK.1 hP hD hS 0 rfl rfl 6 (by decide) lkf30 (fun _ h9 => h9) rfl (by decide +kernel) rfl rfl (Nat.le_of_ble_eq_true rfl) dX6_empty_2 (fun H locs hP hD hS => ?_)
  have hP : va_P D vwCl (wX6 cA a0 (sF o0 6 (0 : Int32))) H := hP
  have hD : va_D A (wX6 cA a0 (sF o0 6 (0 : Int32))) := hD
  obtain ⟨s1, es1⟩ : ∃ z, z = sF o0 6 (0 : Int32) := ⟨_, rfl⟩
  rw [← es1] at hP hD
  have h := nm_ap es1 h
  refine lv_aload_n hx hb dX6_empty_5 rfl (lv_at hl 0 rfl) ?_
  refine lv_iconst (v := (0 : Int32)) hx hb dX6_empty_6 (by decide) ?_
  refine va_put (D := D) (ci := 6) (v := .int (0 : Int32)) (ty := .int) (C := RX6) (T := TX6) (N := 12) hx hb hts hinX6 tyX6 tyX6_ok nmX6 hown hK.1 hP hD hS 0 rfl rfl 7 (by decide) lkf34 (fun _ h9 => h9) rfl (by decide +kernel) rfl rfl (Nat.le_of_ble_eq_true rfl) dX6_empty_7 (fun H locs hP hD hS => ?_)
  have hP : va_P D vwCl (wX6 cA a0 (sF s1 7 (0 : Int32))) H := hP
  have hD : va_D A (wX6 cA a0 (sF s1 7 (0 : Int32))) := hD
  obtain ⟨s2, es2⟩ : ∃ z, z = sF s1 7 (0 : Int32) := ⟨_, rfl⟩
  rw [← es2] at hP hD
  have h := nm_ap es2 h
  refine lv_aload_n hx hb dX6_empty_10 rfl (lv_at hl 0 rfl) ?_
  refine lv_iconst (v := (0 : Int32)) hx hb dX6_empty_11 (by decide) ?_
  refine va_put (D := D) (ci := 6) (v := .int (0 : Int32)) (ty := .int) (C := RX6) (T := TX6) (N := 12) hx hb hts hinX6 tyX6 tyX6_ok nmX6 hown hK.1 hP hD hS 0 rfl rfl 8 (by decide) lkf37 (fun _ h9 => h9) rfl (by decide +kernel) rfl rfl (Nat.le_of_ble_eq_true rfl) dX6_empty_12 (fun H locs hP hD hS => ?_)
  have hP : va_P D vwCl (wX6 cA a0 (sF s2 8 (0 : Int32))) H := hP
  have hD : va_D A (wX6 cA a0 (sF s2 8 (0 : Int32))) := hD
  obtain ⟨s3, es3⟩ : ∃ z, z = sF s2 8 (0 : Int32) := ⟨_, rfl⟩
  rw [← es3] at hP hD
  have h := nm_ap es3 h
  refine lv_aload_n hx hb dX6_empty_15 rfl (lv_at hl 0 rfl) ?_
  refine lv_iconst (v := (0 : Int32)) hx hb dX6_empty_16 (by decide) ?_
  refine va_put (D := D) (ci := 6) (v := .int (0 : Int32)) (ty := .int) (C := RX6) (T := TX6) (N := 12) hx hb hts hinX6 tyX6 tyX6_ok nmX6 hown hK.1 hP hD hS 0 rfl rfl 9 (by decide) lkf40 (fun _ h9 => h9) rfl (by decide +kernel) rfl rfl (Nat.le_of_ble_eq_true rfl) dX6_empty_17 (fun H locs hP hD hS => ?_)
  have hP : va_P D vwCl (wX6 cA a0 (sF s3 9 (0 : Int32))) H := hP
  have hD : va_D A (wX6 cA a0 (sF s3 9 (0 : Int32))) := hD
  obtain ⟨s4, es4⟩ : ∃ z, z = sF s3 9 (0 : Int32) := ⟨_, rfl⟩
  rw [← es4] at hP hD
  have h := nm_ap es4 h
  refine lv_aload_n hx hb dX6_empty_20 rfl (lv_at hl 0 rfl) ?_
  refine lv_iconst (v := (0 : Int32)) hx hb dX6_empty_21 (by decide) ?_
  refine va_put (D := D) (ci := 6) (v := .int (0 : Int32)) (ty := .int) (C := RX6) (T := TX6) (N := 12) hx hb hts hinX6 tyX6 tyX6_ok nmX6 hown hK.1 hP hD hS 0 rfl rfl 10 (by decide) lkf43 (fun _ h9 => h9) rfl (by decide +kernel) rfl rfl (Nat.le_of_ble_eq_true rfl) dX6_empty_22 (fun H locs hP hD hS => ?_)
  have hP : va_P D vwCl (wX6 cA a0 (sF s4 10 (0 : Int32))) H := hP
  have hD : va_D A (wX6 cA a0 (sF s4 10 (0 : Int32))) := hD
  obtain ⟨s5, es5⟩ : ∃ z, z = sF s4 10 (0 : Int32) := ⟨_, rfl⟩
  rw [← es5] at hP hD
  have h := nm_ap es5 h
  refine lv_aload_n hx hb dX6_empty_25 rfl (lv_at hl 0 rfl) ?_
  refine lv_iconst (v := (0 : Int32)) hx hb dX6_empty_26 (by decide) ?_
  refine va_put (D := D) (ci := 6) (v := .int (0 : Int32)) (ty := .int) (C := RX6) (T := TX6) (N := 12) hx hb hts hinX6 tyX6 tyX6_ok nmX6 hown hK.1 hP hD hS 0 rfl rfl 11 (by decide) lkf46 (fun _ h9 => h9) rfl (by decide +kernel) rfl rfl (Nat.le_of_ble_eq_true rfl) dX6_empty_27 (fun H locs hP hD hS => ?_)
  have hP : va_P D vwCl (wX6 cA a0 (sF s5 11 (0 : Int32))) H := hP
  have hD : va_D A (wX6 cA a0 (sF s5 11 (0 : Int32))) := hD
  obtain ⟨s6, es6⟩ : ∃ z, z = sF s5 11 (0 : Int32) := ⟨_, rfl⟩
  rw [← es6] at hP hD
  have h := nm_ap es6 h
  cases h
  exact hend _ _ _ _ hP hD hS dX6_empty_30
abbrev rmX5_size : Room := ({ frames := 0, cells := 0, slots := 0, locals := 0 } : Room)
set_option maxHeartbeats 4000000 in
set_option maxRecDepth 100000 in
theorem c_X5_size (l : Launch) (D : va_G) (cA : ClassId) (a0 : (Nat → Nat)) (o0 : Ob) (r : Int32) (h : f_X5_size o0 = some r) : ConR l yX5_size wsX5_size rmX5_size D cA [.ref (a0 0)] (wX5 cA a0 o0) r := by
  refine ConR.enter (cc := cX5_size) (maxL := 1) (by decide) rfl (Nat.le_of_ble_eq_true rfl) ?_
  intro p e s m args below meth c Q hx hb hml hown hts hK hP  hend ls hl
  have hl : lv_has ls 1 [(0, .ref (a0 0))] := hl
  unfold f_X5_size at h
  have lkf15 := hts (.fieldLink RX5 15 "TiedToTown$Text" "size" "I") (List.mem_of_getElem? (i := 1) rfl)
  have hinX5 : ∀ w ∈ wsX50, w ∈ wsX5_size := fun w h => List.mem_cons_of_mem _ (List.mem_append_right _ h)
  refine lv_aload_n hx hb dX5_size_0 rfl (lv_at hl 0 rfl) ?_
  refine va_get (D := D) (ci := 5) (v := .int (o0.1 1)) (C := RX5) (T := TX5) (N := 2) hx hb hts hinX5 hown hK.1 hP 0 rfl rfl 1 (by decide) lkf15 (fun _ h9 => h9) rfl dX5_size_1 ?_
  cases h
  exact hend _ _ dX5_size_4
abbrev rmX5_at : Room := ({ frames := 0, cells := 0, slots := 0, locals := 0 } : Room)
set_option maxHeartbeats 4000000 in
set_option maxRecDepth 100000 in
theorem c_X5_at (l : Launch) (D : va_G) (cA : ClassId) (a0 : (Nat → Nat)) (o0 : Ob) (x1 : Int32) (r : Int32) (h : f_X5_at o0 x1 = some r) : ConR l yX5_at wsX5_at rmX5_at D cA [.ref (a0 0), .int x1] (wX5 cA a0 o0) r := by
  refine ConR.enter (cc := cX5_at) (maxL := 2) (by decide) rfl (Nat.le_of_ble_eq_true rfl) ?_
  intro p e s m args below meth c Q hx hb hml hown hts hK hP  hend ls hl
  have hl : lv_has ls 2 [(0, .ref (a0 0)), (1, .int x1)] := hl
  unfold f_X5_at at h
  have lkf15 := hts (.fieldLink RX5 15 "TiedToTown$Text" "size" "I") (List.mem_of_getElem? (i := 1) rfl)
  have hinX5 : ∀ w ∈ wsX50, w ∈ wsX5_at := fun w h => List.mem_cons_of_mem _ (List.mem_append_right _ h)
  have lkf9 := hts (.fieldLink RX5 9 "TiedToTown$Text" "bytes" "[I") (List.mem_of_getElem? (i := 2) rfl)
  refine lv_iload_n hx hb dX5_at_0 rfl (lv_at hl 1 rfl) ?_
  refine lv_if_lt (tgt := 30) hx hb dX5_at_1 (by decide) (fun hc => ?_) (fun hc => ?_)
  · have h := if_t hc h
    refine lv_iconst (v := (-1 : Int32)) hx hb dX5_at_30 (by decide) ?_
    cases h
    exact hend _ _ dX5_at_31
  · have h := if_f hc h
    refine lv_iload_n hx hb dX5_at_4 rfl (lv_at hl 1 rfl) ?_
    refine lv_aload_n hx hb dX5_at_5 rfl (lv_at hl 0 rfl) ?_
    refine va_get (D := D) (ci := 5) (v := .int (o0.1 1)) (C := RX5) (T := TX5) (N := 2) hx hb hts hinX5 hown hK.1 hP 0 rfl rfl 1 (by decide) lkf15 (fun _ h9 => h9) rfl dX5_at_6 ?_
    refine lv_icmp_ge (tgt := 30) hx hb dX5_at_9 (by decide) (fun hc => ?_) (fun hc => ?_)
    · have h := if_t hc h
      refine lv_iconst (v := (-1 : Int32)) hx hb dX5_at_30 (by decide) ?_
      cases h
      exact hend _ _ dX5_at_31
    · have h := if_f hc h
      refine lv_iload_n hx hb dX5_at_12 rfl (lv_at hl 1 rfl) ?_
      refine lv_aload_n hx hb dX5_at_13 rfl (lv_at hl 0 rfl) ?_
      refine va_get (D := D) (ci := 5) (v := .ref (a0 1)) (C := RX5) (T := TX5) (N := 2) hx hb hts hinX5 hown hK.1 hP 0 rfl rfl 0 (by decide) lkf9 (fun _ h9 => h9) rfl dX5_at_14 ?_
      refine alen (v := (300 : Int32)) hx hb hK hP 1 rfl (by decide) dX5_at_17 ?_
      refine lv_icmp_ge (tgt := 30) hx hb dX5_at_18 (by decide) (fun hc => ?_) (fun hc => ?_)
      · have h := if_t hc h
        refine lv_iconst (v := (-1 : Int32)) hx hb dX5_at_30 (by decide) ?_
        cases h
        exact hend _ _ dX5_at_31
      · have h := if_f hc h
        refine lv_aload_n hx hb dX5_at_21 rfl (lv_at hl 0 rfl) ?_
        refine va_get (D := D) (ci := 5) (v := .ref (a0 1)) (C := RX5) (T := TX5) (N := 2) hx hb hts hinX5 hown hK.1 hP 0 rfl rfl 0 (by decide) lkf9 (fun _ h9 => h9) rfl dX5_at_22 ?_
        refine lv_iload_n hx hb dX5_at_25 rfl (lv_at hl 1 rfl) ?_
        obtain ⟨hi1, h⟩ := gd_some h
        refine iald (q0 := 0) (t0 := 0) (j := x1.toNatClampNeg) hx hb hK hP 1 rfl rfl (ck_in hi1) dX5_at_26 ?_
        refine lv_goto (tgt := 31) hx hb dX5_at_27 (by decide) ?_
        cases h
        exact hend _ _ dX5_at_31
abbrev rmX2_numbersOf : Room := ({ frames := 0, cells := 0, slots := 0, locals := 0 } : Room)
set_option maxHeartbeats 4000000 in
set_option maxRecDepth 100000 in
theorem c_X2_numbersOf (l : Launch) (D : va_G) (cA : ClassId) (x0 : Int32) (r : Int32) (h : f_X2_numbersOf x0 = some r) : ConR l yX2_numbersOf wsX2_numbersOf rmX2_numbersOf D cA [.int x0] ([] : va_W) r := by
  refine ConR.enter (cc := cX2_numbersOf) (maxL := 1) (by decide) rfl (Nat.le_of_ble_eq_true rfl) ?_
  intro p e s m args below meth c Q hx hb hml hown hts hK hP  hend ls hl
  have hl : lv_has ls 1 [(0, .int x0)] := hl
  unfold f_X2_numbersOf at h
  refine lv_iload_n hx hb dX2_numbersOf_0 rfl (lv_at hl 0 rfl) ?_
  refine lv_bipush (v := (107 : Int32)) hx hb dX2_numbersOf_1 (by decide) ?_
  refine lv_icmp_ne (tgt := 8) hx hb dX2_numbersOf_3 (by decide) (fun hc => ?_) (fun hc => ?_)
  · have h := if_f hc h
    refine lv_iload_n hx hb dX2_numbersOf_8 rfl (lv_at hl 0 rfl) ?_
    refine lv_bipush (v := (112 : Int32)) hx hb dX2_numbersOf_9 (by decide) ?_
    refine lv_icmp_eq (tgt := 20) hx hb dX2_numbersOf_11 (by decide) (fun hc => ?_) (fun hc => ?_)
    · have h := if_t hc h
      refine lv_iconst (v := (1 : Int32)) hx hb dX2_numbersOf_20 (by decide) ?_
      refine lv_goto (tgt := 25) hx hb dX2_numbersOf_21 (by decide) ?_
      cases h
      exact hend _ _ dX2_numbersOf_25
    · have h := if_f hc h
      refine lv_iload_n hx hb dX2_numbersOf_14 rfl (lv_at hl 0 rfl) ?_
      refine lv_bipush (v := (108 : Int32)) hx hb dX2_numbersOf_15 (by decide) ?_
      refine lv_icmp_ne (tgt := 24) hx hb dX2_numbersOf_17 (by decide) (fun hc => ?_) (fun hc => ?_)
      · have h := if_f hc h
        refine lv_iconst (v := (0 : Int32)) hx hb dX2_numbersOf_24 (by decide) ?_
        cases h
        exact hend _ _ dX2_numbersOf_25
      · have h := if_t hc h
        refine lv_iconst (v := (1 : Int32)) hx hb dX2_numbersOf_20 (by decide) ?_
        refine lv_goto (tgt := 25) hx hb dX2_numbersOf_21 (by decide) ?_
        cases h
        exact hend _ _ dX2_numbersOf_25
  · have h := if_t hc h
    refine lv_iconst (v := (5 : Int32)) hx hb dX2_numbersOf_6 (by decide) ?_
    cases h
    exact hend _ _ dX2_numbersOf_7
abbrev rmX2_figuresEnd : Room := ({ frames := 1, cells := 0, slots := 0, locals := 21 } : Room)
set_option maxHeartbeats 4000000 in
set_option maxRecDepth 100000 in
theorem c_X2_figuresEnd (l : Launch) (D : va_G) (cA : ClassId) (a0 : (Nat → Nat)) (o0 : Ob) (x1 : Int32) (r : Int32) (h : f_X2_figuresEnd o0 x1 = some r) : ConR l yX2_figuresEnd wsX2_figuresEnd rmX2_figuresEnd D cA [.ref (a0 0), .int x1] (wX5 cA a0 o0) r := by
  refine ConR.enter (cc := cX2_figuresEnd) (maxL := 3) (by decide) rfl (Nat.le_of_ble_eq_true rfl) ?_
  intro p e s m args below meth c Q hx hb hml hown hts hK hP  hend ls hl
  have hl : lv_has ls 3 [(0, .ref (a0 0)), (1, .int x1)] := hl
  unfold f_X2_figuresEnd at h
  have LP2 : ∀ (x1 : Int32) (n : Nat) (x2 : Int32) (ls : Array Slot) (_ : lv_has ls 3 [(0, .ref (a0 0)), (1, .int x1), (2, .int x2)]) (res : Int32) (_ : L_X2_figuresEnd_2 x1 o0 n x2 = some res) (_ : (∀ (ls : Array Slot), lv_has ls 3 [(2, .int res)] → W p l e rmX2_figuresEnd s m args below meth c s.heap [] 0 0 Q (F0 m 35 ls []))), W p l e rmX2_figuresEnd s m args below meth c s.heap [] 0 0 Q (F0 m 2 ls []) := by
    intro x1 n
    induction n with
    | zero =>
      intro x2 ls hl res h K0
      exact absurd h (fun q : (none : Option (Int32)) = some res => by cases q)
    | succ n ih =>
      intro x2 ls hl res h K0
      have h : L_X2_figuresEnd_2_step x1 o0 (L_X2_figuresEnd_2 x1 o0 n) x2 = some res := h
      unfold L_X2_figuresEnd_2_step at h
      refine lv_iload_n hx hb dX2_figuresEnd_2 rfl (lv_at hl 2 rfl) ?_
      refine lv_iload_n hx hb dX2_figuresEnd_3 rfl (lv_at hl 1 rfl) ?_
      refine lv_iconst (v := (3 : Int32)) hx hb dX2_figuresEnd_4 (by decide) ?_
      refine lv_iadd hx hb dX2_figuresEnd_5 ?_
      refine lv_icmp_ge (tgt := 35) hx hb dX2_figuresEnd_6 (by decide) (fun hc => ?_) (fun hc => ?_)
      · have h := if_t hc h
        cases h
        exact K0 _ (lv_sub hl [2] rfl)
      · have h := if_f hc h
        refine lv_aload_n hx hb dX2_figuresEnd_9 rfl (lv_at hl 0 rfl) ?_
        refine lv_iload_n hx hb dX2_figuresEnd_10 rfl (lv_at hl 2 rfl) ?_
        obtain ⟨z1, hz1, h⟩ := bd_some h
        refine cR_V (As := [.int x2]) (rest := []) ⟨hx, hb, hml, hown, hts⟩ (c_X5_at l D cA a0 o0 x2 z1 hz1) (cwV 1 hts gX2_figuresEnd_X5_at rfl rfl rfl hd_X5_at ⟨(Nat.le_of_ble_eq_true rfl), (Nat.le_of_ble_eq_true rfl)⟩) (recvK hK hP 0 5 rfl rfl) hK hP [0, 1] rfl rfl hl.1 rfl (Nat.le_of_ble_eq_true rfl) dX2_figuresEnd_11 ⟨(Nat.le_of_ble_eq_true rfl), (Nat.le_of_ble_eq_true rfl)⟩ ?_
        refine lv_bipush (v := (48 : Int32)) hx hb dX2_figuresEnd_14 (by decide) ?_
        refine lv_icmp_lt (tgt := 35) hx hb dX2_figuresEnd_16 (by decide) (fun hc => ?_) (fun hc => ?_)
        · have h := if_t hc h
          cases h
          exact K0 _ (lv_sub hl [2] rfl)
        · have h := if_f hc h
          refine lv_aload_n hx hb dX2_figuresEnd_19 rfl (lv_at hl 0 rfl) ?_
          refine lv_iload_n hx hb dX2_figuresEnd_20 rfl (lv_at hl 2 rfl) ?_
          obtain ⟨z2, hz2, h⟩ := bd_some h
          refine cR_V (As := [.int x2]) (rest := []) ⟨hx, hb, hml, hown, hts⟩ (c_X5_at l D cA a0 o0 x2 z2 hz2) (cwV 1 hts gX2_figuresEnd_X5_at rfl rfl rfl hd_X5_at ⟨(Nat.le_of_ble_eq_true rfl), (Nat.le_of_ble_eq_true rfl)⟩) (recvK hK hP 0 5 rfl rfl) hK hP [0, 1] rfl rfl hl.1 rfl (Nat.le_of_ble_eq_true rfl) dX2_figuresEnd_21 ⟨(Nat.le_of_ble_eq_true rfl), (Nat.le_of_ble_eq_true rfl)⟩ ?_
          refine lv_bipush (v := (57 : Int32)) hx hb dX2_figuresEnd_24 (by decide) ?_
          refine lv_icmp_gt (tgt := 35) hx hb dX2_figuresEnd_26 (by decide) (fun hc => ?_) (fun hc => ?_)
          · have h := if_t hc h
            cases h
            exact K0 _ (lv_sub hl [2] rfl)
          · have h := if_f hc h
            obtain ⟨v3, ev3⟩ : ∃ y : Int32, y = x2 + (1 : Int32) := ⟨_, rfl⟩
            refine lv_iinc (v := v3) (lv' := [(2, .int v3), (0, .ref (a0 0)), (1, .int x1)]) hx hb dX2_figuresEnd_29 hl (k := 2) rfl (by rw [ev3]; rfl) (by decide) rfl (fun ls hl => ?_)
            have h := nm_ap ev3 h
            refine lv_goto (tgt := 2) hx hb dX2_figuresEnd_32 (by decide) ?_
            exact ih v3 ls (lv_sub hl [1, 2, 0] rfl) _ h K0
  refine lv_iload_n hx hb dX2_figuresEnd_0 rfl (lv_at hl 1 rfl) ?_
  refine lv_istore_n (lv' := [(2, .int x1), (0, .ref (a0 0)), (1, .int x1)]) hx hb dX2_figuresEnd_1 rfl hl (by decide) rfl (fun ls hl => ?_)
  obtain ⟨z1, hz1, h⟩ := bd_some h
  refine LP2 x1 512 x1 ls (lv_sub hl [1, 2, 0] rfl) _ hz1 ?_
  · intro ls hl
    refine lv_iload_n hx hb dX2_figuresEnd_35 rfl (lv_at hl 0 rfl) ?_
    cases h
    exact hend _ _ dX2_figuresEnd_36
abbrev rmX2_valueOf : Room := ({ frames := 1, cells := 0, slots := 0, locals := 21 } : Room)
set_option maxHeartbeats 4000000 in
set_option maxRecDepth 100000 in
theorem c_X2_valueOf (l : Launch) (D : va_G) (cA : ClassId) (a0 : (Nat → Nat)) (o0 : Ob) (x1 : Int32) (x2 : Int32) (r : Int32) (h : f_X2_valueOf o0 x1 x2 = some r) : ConR l yX2_valueOf wsX2_valueOf rmX2_valueOf D cA [.ref (a0 0), .int x1, .int x2] (wX5 cA a0 o0) r := by
  refine ConR.enter (cc := cX2_valueOf) (maxL := 5) (by decide) rfl (Nat.le_of_ble_eq_true rfl) ?_
  intro p e s m args below meth c Q hx hb hml hown hts hK hP  hend ls hl
  have hl : lv_has ls 5 [(0, .ref (a0 0)), (1, .int x1), (2, .int x2)] := hl
  unfold f_X2_valueOf at h
  have LP5 : ∀ (x2 : Int32) (n : Nat) (x3 : Int32) (x4 : Int32) (ls : Array Slot) (_ : lv_has ls 5 [(0, .ref (a0 0)), (2, .int x2), (3, .int x3), (4, .int x4)]) (res : Int32) (_ : L_X2_valueOf_5 x2 o0 n x3 x4 = some res) (_ : (∀ (ls : Array Slot), lv_has ls 5 [(3, .int res)] → W p l e rmX2_valueOf s m args below meth c s.heap [] 0 0 Q (F0 m 32 ls []))), W p l e rmX2_valueOf s m args below meth c s.heap [] 0 0 Q (F0 m 5 ls []) := by
    intro x2 n
    induction n with
    | zero =>
      intro x3 x4 ls hl res h K0
      exact absurd h (fun q : (none : Option (Int32)) = some res => by cases q)
    | succ n ih =>
      intro x3 x4 ls hl res h K0
      have h : L_X2_valueOf_5_step x2 o0 (L_X2_valueOf_5 x2 o0 n) x3 x4 = some res := h
      unfold L_X2_valueOf_5_step at h
      refine lv_iload hx hb dX2_valueOf_5 (lv_at hl 3 rfl) ?_
      refine lv_iload_n hx hb dX2_valueOf_7 rfl (lv_at hl 1 rfl) ?_
      refine lv_icmp_ge (tgt := 32) hx hb dX2_valueOf_8 (by decide) (fun hc => ?_) (fun hc => ?_)
      · have h := if_t hc h
        cases h
        exact K0 _ (lv_sub hl [2] rfl)
      · have h := if_f hc h
        refine lv_bipush (v := (10 : Int32)) hx hb dX2_valueOf_11 (by decide) ?_
        refine lv_iload_n hx hb dX2_valueOf_13 rfl (lv_at hl 2 rfl) ?_
        refine lv_imul hx hb dX2_valueOf_14 ?_
        refine lv_aload_n hx hb dX2_valueOf_15 rfl (lv_at hl 0 rfl) ?_
        refine lv_iload hx hb dX2_valueOf_16 (lv_at hl 3 rfl) ?_
        obtain ⟨z1, hz1, h⟩ := bd_some h
        refine cR_V (As := [.int x4]) (rest := [.int ((10 : Int32) * x3)]) ⟨hx, hb, hml, hown, hts⟩ (c_X5_at l D cA a0 o0 x4 z1 hz1) (cwV 1 hts gX2_valueOf_X5_at rfl rfl rfl hd_X5_at ⟨(Nat.le_of_ble_eq_true rfl), (Nat.le_of_ble_eq_true rfl)⟩) (recvK hK hP 0 5 rfl rfl) hK hP [0, 1] rfl rfl hl.1 rfl (Nat.le_of_ble_eq_true rfl) dX2_valueOf_18 ⟨(Nat.le_of_ble_eq_true rfl), (Nat.le_of_ble_eq_true rfl)⟩ ?_
        refine lv_iadd hx hb dX2_valueOf_21 ?_
        refine lv_bipush (v := (48 : Int32)) hx hb dX2_valueOf_22 (by decide) ?_
        refine lv_isub hx hb dX2_valueOf_24 ?_
        refine lv_topi (fun v2 ev2 => ?_)
        have h := nm_ap ev2 h
        refine lv_istore_n (lv' := [(3, .int v2), (0, .ref (a0 0)), (2, .int x2), (4, .int x4)]) hx hb dX2_valueOf_25 rfl hl (by decide) rfl (fun ls hl => ?_)
        obtain ⟨v3, ev3⟩ : ∃ y : Int32, y = x4 + (1 : Int32) := ⟨_, rfl⟩
        refine lv_iinc (v := v3) (lv' := [(4, .int v3), (3, .int v2), (0, .ref (a0 0)), (2, .int x2)]) hx hb dX2_valueOf_26 hl (k := 3) rfl (by rw [ev3]; rfl) (by decide) rfl (fun ls hl => ?_)
        have h := nm_ap ev3 h
        refine lv_goto (tgt := 5) hx hb dX2_valueOf_29 (by decide) ?_
        exact ih v2 v3 ls (lv_sub hl [2, 3, 1, 0] rfl) _ h K0
  refine lv_iconst (v := (0 : Int32)) hx hb dX2_valueOf_0 (by decide) ?_
  refine lv_istore_n (lv' := [(3, .int (0 : Int32)), (0, .ref (a0 0)), (1, .int x1), (2, .int x2)]) hx hb dX2_valueOf_1 rfl hl (by decide) rfl (fun ls hl => ?_)
  refine lv_iload_n hx hb dX2_valueOf_2 rfl (lv_at hl 2 rfl) ?_
  refine lv_istore (lv' := [(4, .int x1), (3, .int (0 : Int32)), (0, .ref (a0 0)), (1, .int x1), (2, .int x2)]) hx hb dX2_valueOf_3 hl (by decide) rfl (fun ls hl => ?_)
  obtain ⟨z1, hz1, h⟩ := bd_some h
  refine LP5 x2 512 (0 : Int32) x1 ls (lv_sub hl [2, 4, 1, 0] rfl) _ hz1 ?_
  · intro ls hl
    refine lv_iload_n hx hb dX2_valueOf_32 rfl (lv_at hl 0 rfl) ?_
    cases h
    exact hend _ _ dX2_valueOf_33
abbrev rmX2_readNumbers : Room := ({ frames := 2, cells := 0, slots := 0, locals := 45 } : Room)
set_option maxHeartbeats 4000000 in
set_option maxRecDepth 100000 in
theorem c_X2_readNumbers (l : Launch) (D : va_G) (cA : ClassId) (a0 : (Nat → Nat)) (o0 : Ob) (a1 : (Nat → Nat)) (o1 : Ob) (x2 : Int32) (x3 : Int32) (r : Int32) (o0_ : Ob) (h : f_X2_readNumbers o0 o1 x2 x3 = some (r, o0_)) : ConW l yX2_readNumbers wsX2_readNumbers rmX2_readNumbers D cA [.ref (a0 0), .ref (a1 0), .int x2, .int x3] (wX2 cA a0 o0 ++ wX5 cA a1 o1) r (wX2 cA a0 o0_ ++ wX5 cA a1 o1) := by
  refine ConW.enter (cc := cX2_readNumbers) (maxL := 8) (by decide) rfl (Nat.le_of_ble_eq_true rfl) ?_
  intro p e s m args below meth c Q A hx hb hml hown hts hK hP hD hA hend ls hl
  have hS : va_S A s.heap s.heap [] := va_S.rf
  have hl : lv_has ls 8 [(0, .ref (a0 0)), (1, .ref (a1 0)), (2, .int x2), (3, .int x3)] := hl
  unfold f_X2_readNumbers at h
  have lkf9 := hts (.fieldLink RX2 9 "TiedToTown$Reader" "numbers" "[I") (List.mem_of_getElem? (i := 1) rfl)
  have hinX2 : ∀ w ∈ wsX20, w ∈ wsX2_readNumbers := fun w h => List.mem_cons_of_mem _ (List.mem_append_left _ (List.mem_append_right _ h))
  have LP14 : ∀ (x3 : Int32) (n : Nat) (x4 : Int32) (x5 : Int32) (o0 : Ob) (H : Heap) (locs : List Loc) (_ : va_P D vwCl (wX2 cA a0 o0 ++ wX5 cA a1 o1) H) (_ : va_D A (wX2 cA a0 o0 ++ wX5 cA a1 o1)) (_ : va_S A s.heap H locs) (ls : Array Slot) (_ : lv_has ls 8 [(0, .ref (a0 0)), (1, .ref (a1 0)), (3, .int x3), (4, .int x4), (5, .int x5)]) (res : Nat × Int32 × Ob) (_ : L_X2_readNumbers_14 x3 o1 n x4 x5 o0 = some res) (_ : (∀ (H : Heap) (locs : List Loc) (_ : va_P D vwCl (wX2 cA a0 res.2.2 ++ wX5 cA a1 o1) H) (_ : va_D A (wX2 cA a0 res.2.2 ++ wX5 cA a1 o1)) (_ : va_S A s.heap H locs) (ls : Array Slot), lv_has ls 8 [] → res.1 = 0 → W p l e rmX2_readNumbers s m args below meth c H locs 0 0 Q (F0 m 73 ls []))) (_ : (∀ (H : Heap) (locs : List Loc) (_ : va_P D vwCl (wX2 cA a0 res.2.2 ++ wX5 cA a1 o1) H) (_ : va_D A (wX2 cA a0 res.2.2 ++ wX5 cA a1 o1)) (_ : va_S A s.heap H locs) (ls : Array Slot), lv_has ls 8 [(4, .int res.2.1)] → res.1 = 1 → W p l e rmX2_readNumbers s m args below meth c H locs 0 0 Q (F0 m 103 ls []))), W p l e rmX2_readNumbers s m args below meth c H locs 0 0 Q (F0 m 14 ls []) := by
    intro x3 n
    induction n with
    | zero =>
      intro x4 x5 o0 H locs hP hD hS ls hl res h K0 K1
      exact absurd h (fun q : (none : Option (Nat × Int32 × Ob)) = some res => by cases q)
    | succ n ih =>
      intro x4 x5 o0 H locs hP hD hS ls hl res h K0 K1
      have h : L_X2_readNumbers_14_step x3 o1 (L_X2_readNumbers_14 x3 o1 n) x4 x5 o0 = some res := h
      unfold L_X2_readNumbers_14_step at h
      have JP14_53 : ∀ (k0 : Int32) (x4 : Int32) (x5 : Int32) (x6 : Int32) (o0 : Ob) (H : Heap) (locs : List Loc) (_ : va_P D vwCl (wX2 cA a0 o0 ++ wX5 cA a1 o1) H) (_ : va_D A (wX2 cA a0 o0 ++ wX5 cA a1 o1)) (_ : va_S A s.heap H locs) (ls : Array Slot) (_ : lv_has ls 8 [(0, .ref (a0 0)), (1, .ref (a1 0)), (3, .int x3), (4, .int x4), (5, .int x5), (6, .int x6)]) (_ : J_X2_readNumbers_53l14 (L_X2_readNumbers_14 x3 o1 n) k0 x3 x4 x5 x6 o0 o1 = some res), W p l e rmX2_readNumbers s m args below meth c H locs 0 0 Q (F0 m 53 ls [.int k0]) := by
        intro k0 x4 x5 x6 o0 H locs hP hD hS ls hl h
        unfold J_X2_readNumbers_53l14 at h
        refine lv_istore (lv' := [(7, .int k0), (0, .ref (a0 0)), (1, .ref (a1 0)), (3, .int x3), (4, .int x4), (5, .int x5), (6, .int x6)]) hx hb dX2_readNumbers_53 hl (by decide) rfl (fun ls hl => ?_)
        refine lv_iload hx hb dX2_readNumbers_55 (lv_at hl 6 rfl) ?_
        refine lv_iload hx hb dX2_readNumbers_57 (lv_at hl 4 rfl) ?_
        refine lv_icmp_eq (tgt := 73) hx hb dX2_readNumbers_59 (by decide) (fun hc => ?_) (fun hc => ?_)
        · have h := if_t hc h
          cases h
          exact K0 _ _ hP hD hS _ (lv_sub hl [] rfl) rfl
        · have h := if_f hc h
          refine lv_aload_n hx hb dX2_readNumbers_62 rfl (lv_at hl 2 rfl) ?_
          refine lv_iload hx hb dX2_readNumbers_63 (lv_at hl 6 rfl) ?_
          obtain ⟨z1, hz1, h⟩ := bd_some h
          refine cR_V (As := [.int x6]) (rest := []) ⟨hx, hb, hml, hown, hts⟩ (c_X5_at l D cA a1 o1 x6 z1 hz1) (cwV 1 hts gX2_readNumbers_X5_at rfl rfl rfl hd_X5_at ⟨(Nat.le_of_ble_eq_true rfl), (Nat.le_of_ble_eq_true rfl)⟩) (recvK hK hP 2 5 rfl rfl) hK hP [2, 3] rfl rfl hl.1 rfl (Nat.le_of_ble_eq_true rfl) dX2_readNumbers_65 ⟨(Nat.le_of_ble_eq_true rfl), (Nat.le_of_ble_eq_true rfl)⟩ ?_
          refine lv_iload hx hb dX2_readNumbers_68 (lv_at hl 0 rfl) ?_
          refine lv_icmp_eq (tgt := 76) hx hb dX2_readNumbers_70 (by decide) (fun hc => ?_) (fun hc => ?_)
          · have h := if_t hc h
            refine lv_aload_n hx hb dX2_readNumbers_76 rfl (lv_at hl 1 rfl) ?_
            refine va_get (D := D) (ci := 2) (v := .ref (a0 1)) (C := RX2) (T := TX2) (N := 1) hx hb hts hinX2 hown hK.1 hP 0 rfl rfl 0 (by decide) lkf9 (fun _ h9 => h9) rfl dX2_readNumbers_77 ?_
            refine lv_iload hx hb dX2_readNumbers_80 (lv_at hl 5 rfl) ?_
            refine lv_aload_n hx hb dX2_readNumbers_82 rfl (lv_at hl 2 rfl) ?_
            refine lv_iload hx hb dX2_readNumbers_83 (lv_at hl 4 rfl) ?_
            refine lv_iload hx hb dX2_readNumbers_85 (lv_at hl 6 rfl) ?_
            obtain ⟨z2, hz2, h⟩ := bd_some h
            refine cR_S (As := [.ref (a1 0), .int x4, .int x6]) (rest := [.int x5, .ref (a0 1)]) ⟨hx, hb, hml, hown, hts⟩ (c_X2_valueOf l D cA a1 o1 x4 x6 z2 hz2) (va_cwS 3 hts gX2_readNumbers_X2_valueOf rfl rfl rfl hd_X2_valueOf.2 ⟨(Nat.le_of_ble_eq_true rfl), (Nat.le_of_ble_eq_true rfl)⟩) hK hP [2, 3] rfl rfl hl.1 rfl (Nat.le_of_ble_eq_true rfl) dX2_readNumbers_87 ⟨(Nat.le_of_ble_eq_true rfl), (Nat.le_of_ble_eq_true rfl)⟩ ?_
            obtain ⟨hi3, h⟩ := gd_some h
            refine iast (j := x5.toNatClampNeg) (wn := (wX2 cA a0 (sA o0 0 x5.toNatClampNeg z2) ++ wX5 cA a1 o1)) hx hb hK hP hD hS 1 rfl rfl (ck_in hi3) dX2_readNumbers_90 rfl (fun H locs hP hD hS => ?_)
            obtain ⟨s4, es4⟩ : ∃ z, z = sA o0 0 x5.toNatClampNeg z2 := ⟨_, rfl⟩
            rw [← es4] at hP hD
            have h := nm_ap es4 h
            refine lv_iload hx hb dX2_readNumbers_91 (lv_at hl 6 rfl) ?_
            refine lv_iconst (v := (1 : Int32)) hx hb dX2_readNumbers_93 (by decide) ?_
            refine lv_iadd hx hb dX2_readNumbers_94 ?_
            refine lv_topi (fun v5 ev5 => ?_)
            have h := nm_ap ev5 h
            refine lv_istore (lv' := [(4, .int v5), (7, .int k0), (0, .ref (a0 0)), (1, .ref (a1 0)), (3, .int x3), (5, .int x5), (6, .int x6)]) hx hb dX2_readNumbers_95 hl (by decide) rfl (fun ls hl => ?_)
            obtain ⟨v6, ev6⟩ : ∃ y : Int32, y = x5 + (1 : Int32) := ⟨_, rfl⟩
            refine lv_iinc (v := v6) (lv' := [(5, .int v6), (4, .int v5), (7, .int k0), (0, .ref (a0 0)), (1, .ref (a1 0)), (3, .int x3), (6, .int x6)]) hx hb dX2_readNumbers_97 hl (k := 5) rfl (by rw [ev6]; rfl) (by decide) rfl (fun ls hl => ?_)
            have h := nm_ap ev6 h
            refine lv_goto (tgt := 14) hx hb dX2_readNumbers_100 (by decide) ?_
            exact ih v5 v6 s4 _ _ hP hD hS ls (lv_sub hl [3, 4, 5, 1, 0] rfl) _ h K0 K1
          · have h := if_f hc h
            cases h
            exact K0 _ _ hP hD hS _ (lv_sub hl [] rfl) rfl
      refine lv_iload hx hb dX2_readNumbers_14 (lv_at hl 4 rfl) ?_
      refine lv_iload_n hx hb dX2_readNumbers_16 rfl (lv_at hl 2 rfl) ?_
      refine lv_icmp_ge (tgt := 103) hx hb dX2_readNumbers_17 (by decide) (fun hc => ?_) (fun hc => ?_)
      · have h := if_t hc h
        cases h
        exact K1 _ _ hP hD hS _ (lv_sub hl [3] rfl) rfl
      · have h := if_f hc h
        refine lv_iload hx hb dX2_readNumbers_20 (lv_at hl 4 rfl) ?_
        refine lv_aload_n hx hb dX2_readNumbers_22 rfl (lv_at hl 0 rfl) ?_
        refine va_get (D := D) (ci := 2) (v := .ref (a0 1)) (C := RX2) (T := TX2) (N := 1) hx hb hts hinX2 hown hK.1 hP 0 rfl rfl 0 (by decide) lkf9 (fun _ h9 => h9) rfl dX2_readNumbers_23 ?_
        refine alen (v := (5 : Int32)) hx hb hK hP 1 rfl (by decide) dX2_readNumbers_26 ?_
        refine lv_icmp_ge (tgt := 103) hx hb dX2_readNumbers_27 (by decide) (fun hc => ?_) (fun hc => ?_)
        · have h := if_t hc h
          cases h
          exact K1 _ _ hP hD hS _ (lv_sub hl [3] rfl) rfl
        · have h := if_f hc h
          refine lv_aload_n hx hb dX2_readNumbers_30 rfl (lv_at hl 1 rfl) ?_
          refine lv_iload hx hb dX2_readNumbers_31 (lv_at hl 3 rfl) ?_
          obtain ⟨z1, hz1, h⟩ := bd_some h
          refine cR_S (As := [.ref (a1 0), .int x4]) (rest := []) ⟨hx, hb, hml, hown, hts⟩ (c_X2_figuresEnd l D cA a1 o1 x4 z1 hz1) (va_cwS 2 hts gX2_readNumbers_X2_figuresEnd rfl rfl rfl hd_X2_figuresEnd.2 ⟨(Nat.le_of_ble_eq_true rfl), (Nat.le_of_ble_eq_true rfl)⟩) hK hP [2, 3] rfl rfl hl.1 rfl (Nat.le_of_ble_eq_true rfl) dX2_readNumbers_33 ⟨(Nat.le_of_ble_eq_true rfl), (Nat.le_of_ble_eq_true rfl)⟩ ?_
          refine lv_istore (lv' := [(6, .int z1), (0, .ref (a0 0)), (1, .ref (a1 0)), (3, .int x3), (4, .int x4), (5, .int x5)]) hx hb dX2_readNumbers_36 hl (by decide) rfl (fun ls hl => ?_)
          refine lv_iload hx hb dX2_readNumbers_38 (lv_at hl 5 rfl) ?_
          refine lv_iload_n hx hb dX2_readNumbers_40 rfl (lv_at hl 3 rfl) ?_
          refine lv_iconst (v := (1 : Int32)) hx hb dX2_readNumbers_41 (by decide) ?_
          refine lv_isub hx hb dX2_readNumbers_42 ?_
          refine lv_icmp_ne (tgt := 51) hx hb dX2_readNumbers_43 (by decide) (fun hc => ?_) (fun hc => ?_)
          · have h := if_f hc h
            refine lv_bipush (v := (44 : Int32)) hx hb dX2_readNumbers_51 (by decide) ?_
            exact JP14_53 (44 : Int32) x4 x5 z1 o0 _ _ hP hD hS ls (lv_sub hl [1, 2, 3, 4, 5, 0] rfl) h
          · have h := if_t hc h
            refine lv_bipush (v := (59 : Int32)) hx hb dX2_readNumbers_46 (by decide) ?_
            refine lv_goto (tgt := 53) hx hb dX2_readNumbers_48 (by decide) ?_
            exact JP14_53 (59 : Int32) x4 x5 z1 o0 _ _ hP hD hS ls (lv_sub hl [1, 2, 3, 4, 5, 0] rfl) h
  refine lv_iload_n hx hb dX2_readNumbers_0 rfl (lv_at hl 3 rfl) ?_
  refine lv_iconst (v := (1 : Int32)) hx hb dX2_readNumbers_1 (by decide) ?_
  refine lv_icmp_ge (tgt := 8) hx hb dX2_readNumbers_2 (by decide) (fun hc => ?_) (fun hc => ?_)
  · have h := if_t hc h
    refine lv_iload_n hx hb dX2_readNumbers_8 rfl (lv_at hl 2 rfl) ?_
    refine lv_istore (lv' := [(4, .int x2), (0, .ref (a0 0)), (1, .ref (a1 0)), (2, .int x2), (3, .int x3)]) hx hb dX2_readNumbers_9 hl (by decide) rfl (fun ls hl => ?_)
    refine lv_iconst (v := (0 : Int32)) hx hb dX2_readNumbers_11 (by decide) ?_
    refine lv_istore (lv' := [(5, .int (0 : Int32)), (4, .int x2), (0, .ref (a0 0)), (1, .ref (a1 0)), (2, .int x2), (3, .int x3)]) hx hb dX2_readNumbers_12 hl (by decide) rfl (fun ls hl => ?_)
    obtain ⟨z1, hz1, h⟩ := bd_some h
    refine LP14 x3 512 x2 (0 : Int32) o0 _ _ hP hD hS ls (lv_sub hl [2, 3, 5, 1, 0] rfl) _ hz1 ?_ ?_
    · intro H locs hP hD hS ls hl hi
      have h := if_t hi h
      refine lv_bipush (v := (-4 : Int32)) hx hb dX2_readNumbers_73 (by decide) ?_
      cases h
      exact hend _ _ _ _ hP hD hS dX2_readNumbers_75
    · intro H locs hP hD hS ls hl hi
      have h := if_f (by rw [hi]; decide) h
      refine lv_iload hx hb dX2_readNumbers_103 (lv_at hl 0 rfl) ?_
      cases h
      exact hend _ _ _ _ hP hD hS dX2_readNumbers_105
  · have h := if_f hc h
    refine lv_bipush (v := (-4 : Int32)) hx hb dX2_readNumbers_5 (by decide) ?_
    cases h
    exact hend _ _ _ _ hP hD hS dX2_readNumbers_7
abbrev rmX6_addPerson : Room := ({ frames := 0, cells := 0, slots := 0, locals := 0 } : Room)
set_option maxHeartbeats 4000000 in
set_option maxRecDepth 100000 in
theorem c_X6_addPerson (l : Launch) (D : va_G) (cA : ClassId) (a0 : (Nat → Nat)) (o0 : Ob) (x1 : Int32) (r : Int32) (o0_ : Ob) (h : f_X6_addPerson o0 x1 = some (r, o0_)) : ConW l yX6_addPerson wsX6_addPerson rmX6_addPerson D cA [.ref (a0 0), .int x1] (wX6 cA a0 o0) r (wX6 cA a0 o0_) := by
  refine ConWZ.enter (cc := cX6_addPerson) (maxL := 2) (by decide) rfl (Nat.le_of_ble_eq_true rfl) ?_
  intro p e s m args below meth c Q A hx hb hml hown hts hK hP hD hA hend ls hl
  have hS : va_S A s.heap s.heap [] := va_S.rf
  have hl : lv_has ls 2 [(0, .ref (a0 0)), (1, .int x1)] := hl
  unfold f_X6_addPerson at h
  have lkf30 := hts (.fieldLink RX6 30 "TiedToTown$Town" "persons" "I") (List.mem_of_getElem? (i := 1) rfl)
  have hinX6 : ∀ w ∈ wsX60, w ∈ wsX6_addPerson := fun w h => List.mem_cons_of_mem _ (List.mem_append_right _ h)
  have lkf34 := hts (.fieldLink RX6 34 "TiedToTown$Town" "alive" "I") (List.mem_of_getElem? (i := 2) rfl)
  refine lv_iload_n hx hb dX6_addPerson_0 rfl (lv_at hl 1 rfl) ?_
  refine lv_if_lt (tgt := 18) hx hb dX6_addPerson_1 (by decide) (fun hc => ?_) (fun hc => ?_)
  · have h := if_t hc h
    refine lv_iconst (v := (0 : Int32)) hx hb dX6_addPerson_18 (by decide) ?_
    cases h
    exact hend _ _ _ _ (by decide) hP hD hS dX6_addPerson_19
  · have h := if_f hc h
    refine lv_iload_n hx hb dX6_addPerson_4 rfl (lv_at hl 1 rfl) ?_
    refine lv_iconst (v := (1 : Int32)) hx hb dX6_addPerson_5 (by decide) ?_
    refine lv_icmp_gt (tgt := 18) hx hb dX6_addPerson_6 (by decide) (fun hc => ?_) (fun hc => ?_)
    · have h := if_t hc h
      refine lv_iconst (v := (0 : Int32)) hx hb dX6_addPerson_18 (by decide) ?_
      cases h
      exact hend _ _ _ _ (by decide) hP hD hS dX6_addPerson_19
    · have h := if_f hc h
      refine lv_aload_n hx hb dX6_addPerson_9 rfl (lv_at hl 0 rfl) ?_
      refine va_get (D := D) (ci := 6) (v := .int (o0.1 6)) (C := RX6) (T := TX6) (N := 12) hx hb hts hinX6 hown hK.1 hP 0 rfl rfl 6 (by decide) lkf30 (fun _ h9 => h9) rfl dX6_addPerson_10 ?_
      refine lv_bipush (v := (6 : Int32)) hx hb dX6_addPerson_13 (by decide) ?_
      refine lv_icmp_lt (tgt := 20) hx hb dX6_addPerson_15 (by decide) (fun hc => ?_) (fun hc => ?_)
      · have h := if_t hc h
        refine lv_aload_n hx hb dX6_addPerson_20 rfl (lv_at hl 0 rfl) ?_
        refine lv_dup hx hb dX6_addPerson_21 rfl ?_
        refine va_get (D := D) (ci := 6) (v := .int (o0.1 7)) (C := RX6) (T := TX6) (N := 12) hx hb hts hinX6 hown hK.1 hP 0 rfl rfl 7 (by decide) lkf34 (fun _ h9 => h9) rfl dX6_addPerson_22 ?_
        refine lv_iload_n hx hb dX6_addPerson_25 rfl (lv_at hl 1 rfl) ?_
        refine lv_aload_n hx hb dX6_addPerson_26 rfl (lv_at hl 0 rfl) ?_
        refine va_get (D := D) (ci := 6) (v := .int (o0.1 6)) (C := RX6) (T := TX6) (N := 12) hx hb hts hinX6 hown hK.1 hP 0 rfl rfl 6 (by decide) lkf30 (fun _ h9 => h9) rfl dX6_addPerson_27 ?_
        refine lv_ishl hx hb dX6_addPerson_30 ?_
        refine lv_ior hx hb dX6_addPerson_31 ?_
        refine va_put (D := D) (ci := 6) (v := .int ((o0.1 7) ||| (x1 <<< ((o0.1 6) &&& 31)))) (ty := .int) (C := RX6) (T := TX6) (N := 12) hx hb hts hinX6 tyX6 tyX6_ok nmX6 hown hK.1 hP hD hS 0 rfl rfl 7 (by decide) lkf34 (fun _ h9 => h9) rfl (by decide +kernel) rfl rfl (Nat.le_of_ble_eq_true rfl) dX6_addPerson_32 (fun H locs hP hD hS => ?_)
        have hP : va_P D vwCl (wX6 cA a0 (sF o0 7 ((o0.1 7) ||| (x1 <<< ((o0.1 6) &&& 31))))) H := hP
        have hD : va_D A (wX6 cA a0 (sF o0 7 ((o0.1 7) ||| (x1 <<< ((o0.1 6) &&& 31))))) := hD
        obtain ⟨s1, es1⟩ : ∃ z, z = sF o0 7 ((o0.1 7) ||| (x1 <<< ((o0.1 6) &&& 31))) := ⟨_, rfl⟩
        rw [← es1] at hP hD
        have h := nm_ap es1 h
        refine lv_aload_n hx hb dX6_addPerson_35 rfl (lv_at hl 0 rfl) ?_
        refine lv_dup hx hb dX6_addPerson_36 rfl ?_
        refine va_get (D := D) (ci := 6) (v := .int (s1.1 6)) (C := RX6) (T := TX6) (N := 12) hx hb hts hinX6 hown hK.1 hP 0 rfl rfl 6 (by decide) lkf30 (fun _ h9 => h9) rfl dX6_addPerson_37 ?_
        refine lv_iconst (v := (1 : Int32)) hx hb dX6_addPerson_40 (by decide) ?_
        refine lv_iadd hx hb dX6_addPerson_41 ?_
        refine va_put (D := D) (ci := 6) (v := .int ((s1.1 6) + (1 : Int32))) (ty := .int) (C := RX6) (T := TX6) (N := 12) hx hb hts hinX6 tyX6 tyX6_ok nmX6 hown hK.1 hP hD hS 0 rfl rfl 6 (by decide) lkf30 (fun _ h9 => h9) rfl (by decide +kernel) rfl rfl (Nat.le_of_ble_eq_true rfl) dX6_addPerson_42 (fun H locs hP hD hS => ?_)
        have hP : va_P D vwCl (wX6 cA a0 (sF s1 6 ((s1.1 6) + (1 : Int32)))) H := hP
        have hD : va_D A (wX6 cA a0 (sF s1 6 ((s1.1 6) + (1 : Int32)))) := hD
        obtain ⟨s2, es2⟩ : ∃ z, z = sF s1 6 ((s1.1 6) + (1 : Int32)) := ⟨_, rfl⟩
        rw [← es2] at hP hD
        have h := nm_ap es2 h
        refine lv_iconst (v := (1 : Int32)) hx hb dX6_addPerson_45 (by decide) ?_
        cases h
        exact hend _ _ _ _ (by decide) hP hD hS dX6_addPerson_46
      · have h := if_f hc h
        refine lv_iconst (v := (0 : Int32)) hx hb dX6_addPerson_18 (by decide) ?_
        cases h
        exact hend _ _ _ _ (by decide) hP hD hS dX6_addPerson_19
abbrev rmX6_setLaw : Room := ({ frames := 0, cells := 0, slots := 0, locals := 0 } : Room)
set_option maxHeartbeats 4000000 in
set_option maxRecDepth 100000 in
theorem c_X6_setLaw (l : Launch) (D : va_G) (cA : ClassId) (a0 : (Nat → Nat)) (o0 : Ob) (x1 : Int32) (r : Int32) (o0_ : Ob) (h : f_X6_setLaw o0 x1 = some (r, o0_)) : ConW l yX6_setLaw wsX6_setLaw rmX6_setLaw D cA [.ref (a0 0), .int x1] (wX6 cA a0 o0) r (wX6 cA a0 o0_) := by
  refine ConWZ.enter (cc := cX6_setLaw) (maxL := 2) (by decide) rfl (Nat.le_of_ble_eq_true rfl) ?_
  intro p e s m args below meth c Q A hx hb hml hown hts hK hP hD hA hend ls hl
  have hS : va_S A s.heap s.heap [] := va_S.rf
  have hl : lv_has ls 2 [(0, .ref (a0 0)), (1, .int x1)] := hl
  unfold f_X6_setLaw at h
  have lkf37 := hts (.fieldLink RX6 37 "TiedToTown$Town" "law" "I") (List.mem_of_getElem? (i := 1) rfl)
  have hinX6 : ∀ w ∈ wsX60, w ∈ wsX6_setLaw := fun w h => List.mem_cons_of_mem _ (List.mem_append_right _ h)
  refine lv_iload_n hx hb dX6_setLaw_0 rfl (lv_at hl 1 rfl) ?_
  refine lv_if_lt (tgt := 9) hx hb dX6_setLaw_1 (by decide) (fun hc => ?_) (fun hc => ?_)
  · have h := if_t hc h
    refine lv_iconst (v := (0 : Int32)) hx hb dX6_setLaw_9 (by decide) ?_
    cases h
    exact hend _ _ _ _ (by decide) hP hD hS dX6_setLaw_10
  · have h := if_f hc h
    refine lv_iload_n hx hb dX6_setLaw_4 rfl (lv_at hl 1 rfl) ?_
    refine lv_iconst (v := (2 : Int32)) hx hb dX6_setLaw_5 (by decide) ?_
    refine lv_icmp_le (tgt := 11) hx hb dX6_setLaw_6 (by decide) (fun hc => ?_) (fun hc => ?_)
    · have h := if_t hc h
      refine lv_aload_n hx hb dX6_setLaw_11 rfl (lv_at hl 0 rfl) ?_
      refine lv_iload_n hx hb dX6_setLaw_12 rfl (lv_at hl 1 rfl) ?_
      refine va_put (D := D) (ci := 6) (v := .int x1) (ty := .int) (C := RX6) (T := TX6) (N := 12) hx hb hts hinX6 tyX6 tyX6_ok nmX6 hown hK.1 hP hD hS 0 rfl rfl 8 (by decide) lkf37 (fun _ h9 => h9) rfl (by decide +kernel) rfl rfl (Nat.le_of_ble_eq_true rfl) dX6_setLaw_13 (fun H locs hP hD hS => ?_)
      have hP : va_P D vwCl (wX6 cA a0 (sF o0 8 x1)) H := hP
      have hD : va_D A (wX6 cA a0 (sF o0 8 x1)) := hD
      obtain ⟨s1, es1⟩ : ∃ z, z = sF o0 8 x1 := ⟨_, rfl⟩
      rw [← es1] at hP hD
      have h := nm_ap es1 h
      refine lv_iconst (v := (1 : Int32)) hx hb dX6_setLaw_16 (by decide) ?_
      cases h
      exact hend _ _ _ _ (by decide) hP hD hS dX6_setLaw_17
    · have h := if_f hc h
      refine lv_iconst (v := (0 : Int32)) hx hb dX6_setLaw_9 (by decide) ?_
      cases h
      exact hend _ _ _ _ (by decide) hP hD hS dX6_setLaw_10
abbrev rmX6_isPerson : Room := ({ frames := 0, cells := 0, slots := 0, locals := 0 } : Room)
set_option maxHeartbeats 4000000 in
set_option maxRecDepth 100000 in
theorem c_X6_isPerson (l : Launch) (D : va_G) (cA : ClassId) (a0 : (Nat → Nat)) (o0 : Ob) (x1 : Int32) (r : Int32) (h : f_X6_isPerson o0 x1 = some r) : ConR l yX6_isPerson wsX6_isPerson rmX6_isPerson D cA [.ref (a0 0), .int x1] (wX6 cA a0 o0) r := by
  refine ConZ.enter (cc := cX6_isPerson) (maxL := 2) (by decide) rfl (Nat.le_of_ble_eq_true rfl) ?_
  intro p e s m args below meth c Q hx hb hml hown hts hK hP  hend ls hl
  have hl : lv_has ls 2 [(0, .ref (a0 0)), (1, .int x1)] := hl
  unfold f_X6_isPerson at h
  have lkf30 := hts (.fieldLink RX6 30 "TiedToTown$Town" "persons" "I") (List.mem_of_getElem? (i := 1) rfl)
  have hinX6 : ∀ w ∈ wsX60, w ∈ wsX6_isPerson := fun w h => List.mem_cons_of_mem _ (List.mem_append_right _ h)
  refine lv_iload_n hx hb dX6_isPerson_0 rfl (lv_at hl 1 rfl) ?_
  refine lv_if_lt (tgt := 16) hx hb dX6_isPerson_1 (by decide) (fun hc => ?_) (fun hc => ?_)
  · have h := if_t hc h
    refine lv_iconst (v := (0 : Int32)) hx hb dX6_isPerson_16 (by decide) ?_
    cases h
    exact hend _ _ (by decide) dX6_isPerson_17
  · have h := if_f hc h
    refine lv_iload_n hx hb dX6_isPerson_4 rfl (lv_at hl 1 rfl) ?_
    refine lv_aload_n hx hb dX6_isPerson_5 rfl (lv_at hl 0 rfl) ?_
    refine va_get (D := D) (ci := 6) (v := .int (o0.1 6)) (C := RX6) (T := TX6) (N := 12) hx hb hts hinX6 hown hK.1 hP 0 rfl rfl 6 (by decide) lkf30 (fun _ h9 => h9) rfl dX6_isPerson_6 ?_
    refine lv_icmp_ge (tgt := 16) hx hb dX6_isPerson_9 (by decide) (fun hc => ?_) (fun hc => ?_)
    · have h := if_t hc h
      refine lv_iconst (v := (0 : Int32)) hx hb dX6_isPerson_16 (by decide) ?_
      cases h
      exact hend _ _ (by decide) dX6_isPerson_17
    · have h := if_f hc h
      refine lv_iconst (v := (1 : Int32)) hx hb dX6_isPerson_12 (by decide) ?_
      refine lv_goto (tgt := 17) hx hb dX6_isPerson_13 (by decide) ?_
      cases h
      exact hend _ _ (by decide) dX6_isPerson_17
abbrev rmX6_isSet : Room := ({ frames := 1, cells := 0, slots := 0, locals := 20 } : Room)
set_option maxHeartbeats 4000000 in
set_option maxRecDepth 100000 in
theorem c_X6_isSet (l : Launch) (D : va_G) (cA : ClassId) (a0 : (Nat → Nat)) (o0 : Ob) (x1 : Int32) (r : Int32) (h : f_X6_isSet o0 x1 = some r) : ConR l yX6_isSet wsX6_isSet rmX6_isSet D cA [.ref (a0 0), .int x1] (wX6 cA a0 o0) r := by
  refine ConZ.enter (cc := cX6_isSet) (maxL := 2) (by decide) rfl (Nat.le_of_ble_eq_true rfl) ?_
  intro p e s m args below meth c Q hx hb hml hown hts hK hP  hend ls hl
  have hl : lv_has ls 2 [(0, .ref (a0 0)), (1, .int x1)] := hl
  unfold f_X6_isSet at h
  have lkf40 := hts (.fieldLink RX6 40 "TiedToTown$Town" "knots" "I") (List.mem_of_getElem? (i := 1) rfl)
  have hinX6 : ∀ w ∈ wsX60, w ∈ wsX6_isSet := fun w h => List.mem_cons_of_mem _ (List.mem_append_right _ h)
  refine lv_iload_n hx hb dX6_isSet_0 rfl (lv_at hl 1 rfl) ?_
  refine lv_if_lt (tgt := 19) hx hb dX6_isSet_1 (by decide) (fun hc => ?_) (fun hc => ?_)
  · have h := if_t hc h
    refine lv_iconst (v := (0 : Int32)) hx hb dX6_isSet_19 (by decide) ?_
    cases h
    exact hend _ _ (by decide) dX6_isSet_20
  · have h := if_f hc h
    refine lv_iload_n hx hb dX6_isSet_4 rfl (lv_at hl 1 rfl) ?_
    refine lv_aload_n hx hb dX6_isSet_5 rfl (lv_at hl 0 rfl) ?_
    refine va_get (D := D) (ci := 6) (v := .int (o0.1 9)) (C := RX6) (T := TX6) (N := 12) hx hb hts hinX6 hown hK.1 hP 0 rfl rfl 9 (by decide) lkf40 (fun _ h9 => h9) rfl dX6_isSet_6 ?_
    obtain ⟨z1, hz1, h⟩ := bd_some h
    refine cR_SN (As := [.int (o0.1 9)]) (rest := [.int x1]) ⟨hx, hb, hml, hown, hts⟩ (c_X7_bit l D cA  (o0.1 9) z1 hz1) ⟨va_cnB 1 hts gX6_isSet_X7_bit_n49 rfl rfl rfl (hK.2 _ (List.mem_of_getElem? (i := 27) rfl) : va_Nw (Cond.methodLinkNest RX6 49 yX7_bit "TiedToTown") s) (hts (.initialized RX7) (List.mem_of_getElem? (i := 3) rfl)) hd_X7_bit.2 ⟨(Nat.le_of_ble_eq_true rfl), (Nat.le_of_ble_eq_true rfl)⟩, hts (.static yX7_bit) (List.mem_of_getElem? (i := 2) rfl), trivial⟩ hK hP [] rfl rfl hl.1 rfl (Nat.le_of_ble_eq_true rfl) dX6_isSet_9 ⟨(Nat.le_of_ble_eq_true rfl), (Nat.le_of_ble_eq_true rfl)⟩ ?_
    refine lv_icmp_ge (tgt := 19) hx hb dX6_isSet_12 (by decide) (fun hc => ?_) (fun hc => ?_)
    · have h := if_t hc h
      refine lv_iconst (v := (0 : Int32)) hx hb dX6_isSet_19 (by decide) ?_
      cases h
      exact hend _ _ (by decide) dX6_isSet_20
    · have h := if_f hc h
      refine lv_iconst (v := (1 : Int32)) hx hb dX6_isSet_15 (by decide) ?_
      refine lv_goto (tgt := 20) hx hb dX6_isSet_16 (by decide) ?_
      cases h
      exact hend _ _ (by decide) dX6_isSet_20
abbrev rmX6_suits : Room := ({ frames := 2, cells := 0, slots := 0, locals := 41 } : Room)
set_option maxHeartbeats 4000000 in
set_option maxRecDepth 100000 in
theorem c_X6_suits (l : Launch) (D : va_G) (cA : ClassId) (a0 : (Nat → Nat)) (o0 : Ob) (x1 : Int32) (x2 : Int32) (x3 : Int32) (x4 : Int32) (x5 : Int32) (r : Int32) (h : f_X6_suits o0 x1 x2 x3 x4 x5 = some r) : ConR l yX6_suits wsX6_suits rmX6_suits D cA [.ref (a0 0), .int x1, .int x2, .int x3, .int x4, .int x5] (wX6 cA a0 o0) r := by
  refine ConZ.enter (cc := cX6_suits) (maxL := 6) (by decide) rfl (Nat.le_of_ble_eq_true rfl) ?_
  intro p e s m args below meth c Q hx hb hml hown hts hK hP  hend ls hl
  have hl : lv_has ls 6 [(0, .ref (a0 0)), (1, .int x1), (2, .int x2), (3, .int x3), (4, .int x4), (5, .int x5)] := hl
  unfold f_X6_suits at h
  refine lv_aload_n hx hb dX6_suits_0 rfl (lv_at hl 0 rfl) ?_
  refine lv_iload_n hx hb dX6_suits_1 rfl (lv_at hl 1 rfl) ?_
  obtain ⟨z1, hz1, h⟩ := bd_some h
  refine cR_V (As := [.int x1]) (rest := []) ⟨hx, hb, hml, hown, hts⟩ (c_X6_isPerson l D cA a0 o0 x1 z1 hz1) (cwV 1 hts gX6_suits_X6_isPerson rfl rfl rfl hd_X6_isPerson ⟨(Nat.le_of_ble_eq_true rfl), (Nat.le_of_ble_eq_true rfl)⟩) (recvK hK hP 0 6 rfl rfl) hK hP [0, 1, 2, 3, 4, 5, 6] rfl rfl hl.1 rfl (Nat.le_of_ble_eq_true rfl) dX6_suits_2 ⟨(Nat.le_of_ble_eq_true rfl), (Nat.le_of_ble_eq_true rfl)⟩ ?_
  refine lv_if_eq (tgt := 56) hx hb dX6_suits_5 (by decide) (fun hc => ?_) (fun hc => ?_)
  · have h := if_t hc h
    refine lv_iconst (v := (0 : Int32)) hx hb dX6_suits_56 (by decide) ?_
    cases h
    exact hend _ _ (by decide) dX6_suits_57
  · have h := if_f hc h
    refine lv_aload_n hx hb dX6_suits_8 rfl (lv_at hl 0 rfl) ?_
    refine lv_iload_n hx hb dX6_suits_9 rfl (lv_at hl 2 rfl) ?_
    obtain ⟨z2, hz2, h⟩ := bd_some h
    refine cR_V (As := [.int x2]) (rest := []) ⟨hx, hb, hml, hown, hts⟩ (c_X6_isPerson l D cA a0 o0 x2 z2 hz2) (cwV 1 hts gX6_suits_X6_isPerson rfl rfl rfl hd_X6_isPerson ⟨(Nat.le_of_ble_eq_true rfl), (Nat.le_of_ble_eq_true rfl)⟩) (recvK hK hP 0 6 rfl rfl) hK hP [0, 1, 2, 3, 4, 5, 6] rfl rfl hl.1 rfl (Nat.le_of_ble_eq_true rfl) dX6_suits_10 ⟨(Nat.le_of_ble_eq_true rfl), (Nat.le_of_ble_eq_true rfl)⟩ ?_
    refine lv_if_eq (tgt := 56) hx hb dX6_suits_13 (by decide) (fun hc => ?_) (fun hc => ?_)
    · have h := if_t hc h
      refine lv_iconst (v := (0 : Int32)) hx hb dX6_suits_56 (by decide) ?_
      cases h
      exact hend _ _ (by decide) dX6_suits_57
    · have h := if_f hc h
      refine lv_iload_n hx hb dX6_suits_16 rfl (lv_at hl 1 rfl) ?_
      refine lv_iload_n hx hb dX6_suits_17 rfl (lv_at hl 2 rfl) ?_
      refine lv_icmp_eq (tgt := 56) hx hb dX6_suits_18 (by decide) (fun hc => ?_) (fun hc => ?_)
      · have h := if_t hc h
        refine lv_iconst (v := (0 : Int32)) hx hb dX6_suits_56 (by decide) ?_
        cases h
        exact hend _ _ (by decide) dX6_suits_57
      · have h := if_f hc h
        refine lv_aload_n hx hb dX6_suits_21 rfl (lv_at hl 0 rfl) ?_
        refine lv_iload_n hx hb dX6_suits_22 rfl (lv_at hl 3 rfl) ?_
        obtain ⟨z3, hz3, h⟩ := bd_some h
        refine cR_V (As := [.int x3]) (rest := []) ⟨hx, hb, hml, hown, hts⟩ (c_X6_isSet l D cA a0 o0 x3 z3 hz3) (cwV 1 hts gX6_suits_X6_isSet rfl rfl rfl hd_X6_isSet ⟨(Nat.le_of_ble_eq_true rfl), (Nat.le_of_ble_eq_true rfl)⟩) (recvK hK hP 0 6 rfl rfl) hK hP [0, 1, 2, 3, 4, 5, 6] rfl rfl hl.1 rfl (Nat.le_of_ble_eq_true rfl) dX6_suits_23 ⟨(Nat.le_of_ble_eq_true rfl), (Nat.le_of_ble_eq_true rfl)⟩ ?_
        refine lv_if_eq (tgt := 56) hx hb dX6_suits_26 (by decide) (fun hc => ?_) (fun hc => ?_)
        · have h := if_t hc h
          refine lv_iconst (v := (0 : Int32)) hx hb dX6_suits_56 (by decide) ?_
          cases h
          exact hend _ _ (by decide) dX6_suits_57
        · have h := if_f hc h
          refine lv_iload hx hb dX6_suits_29 (lv_at hl 4 rfl) ?_
          refine lv_if_lt (tgt := 56) hx hb dX6_suits_31 (by decide) (fun hc => ?_) (fun hc => ?_)
          · have h := if_t hc h
            refine lv_iconst (v := (0 : Int32)) hx hb dX6_suits_56 (by decide) ?_
            cases h
            exact hend _ _ (by decide) dX6_suits_57
          · have h := if_f hc h
            refine lv_iload hx hb dX6_suits_34 (lv_at hl 4 rfl) ?_
            refine lv_bipush (v := (99 : Int32)) hx hb dX6_suits_36 (by decide) ?_
            refine lv_icmp_gt (tgt := 56) hx hb dX6_suits_38 (by decide) (fun hc => ?_) (fun hc => ?_)
            · have h := if_t hc h
              refine lv_iconst (v := (0 : Int32)) hx hb dX6_suits_56 (by decide) ?_
              cases h
              exact hend _ _ (by decide) dX6_suits_57
            · have h := if_f hc h
              refine lv_iload hx hb dX6_suits_41 (lv_at hl 5 rfl) ?_
              refine lv_if_lt (tgt := 56) hx hb dX6_suits_43 (by decide) (fun hc => ?_) (fun hc => ?_)
              · have h := if_t hc h
                refine lv_iconst (v := (0 : Int32)) hx hb dX6_suits_56 (by decide) ?_
                cases h
                exact hend _ _ (by decide) dX6_suits_57
              · have h := if_f hc h
                refine lv_iload hx hb dX6_suits_46 (lv_at hl 5 rfl) ?_
                refine lv_iconst (v := (3 : Int32)) hx hb dX6_suits_48 (by decide) ?_
                refine lv_icmp_gt (tgt := 56) hx hb dX6_suits_49 (by decide) (fun hc => ?_) (fun hc => ?_)
                · have h := if_t hc h
                  refine lv_iconst (v := (0 : Int32)) hx hb dX6_suits_56 (by decide) ?_
                  cases h
                  exact hend _ _ (by decide) dX6_suits_57
                · have h := if_f hc h
                  refine lv_iconst (v := (1 : Int32)) hx hb dX6_suits_52 (by decide) ?_
                  refine lv_goto (tgt := 57) hx hb dX6_suits_53 (by decide) ?_
                  cases h
                  exact hend _ _ (by decide) dX6_suits_57
abbrev rmX6_addKnot : Room := ({ frames := 3, cells := 0, slots := 0, locals := 66 } : Room)
set_option maxHeartbeats 4000000 in
set_option maxRecDepth 100000 in
theorem c_X6_addKnot (l : Launch) (D : va_G) (cA : ClassId) (a0 : (Nat → Nat)) (o0 : Ob) (x1 : Int32) (x2 : Int32) (x3 : Int32) (x4 : Int32) (x5 : Int32) (r : Int32) (o0_ : Ob) (h : f_X6_addKnot o0 x1 x2 x3 x4 x5 = some (r, o0_)) : ConW l yX6_addKnot wsX6_addKnot rmX6_addKnot D cA [.ref (a0 0), .int x1, .int x2, .int x3, .int x4, .int x5] (wX6 cA a0 o0) r (wX6 cA a0 o0_) := by
  refine ConWZ.enter (cc := cX6_addKnot) (maxL := 6) (by decide) rfl (Nat.le_of_ble_eq_true rfl) ?_
  intro p e s m args below meth c Q A hx hb hml hown hts hK hP hD hA hend ls hl
  have hS : va_S A s.heap s.heap [] := va_S.rf
  have hl : lv_has ls 6 [(0, .ref (a0 0)), (1, .int x1), (2, .int x2), (3, .int x3), (4, .int x4), (5, .int x5)] := hl
  unfold f_X6_addKnot at h
  have lkf40 := hts (.fieldLink RX6 40 "TiedToTown$Town" "knots" "I") (List.mem_of_getElem? (i := 1) rfl)
  have hinX6 : ∀ w ∈ wsX60, w ∈ wsX6_addKnot := fun w h => List.mem_cons_of_mem _ (List.mem_append_right _ h)
  have lkf9 := hts (.fieldLink RX6 9 "TiedToTown$Town" "first" "[I") (List.mem_of_getElem? (i := 2) rfl)
  have lkf15 := hts (.fieldLink RX6 15 "TiedToTown$Town" "second" "[I") (List.mem_of_getElem? (i := 3) rfl)
  have lkf18 := hts (.fieldLink RX6 18 "TiedToTown$Town" "people" "[I") (List.mem_of_getElem? (i := 4) rfl)
  have lkf21 := hts (.fieldLink RX6 21 "TiedToTown$Town" "through" "[I") (List.mem_of_getElem? (i := 5) rfl)
  have lkf24 := hts (.fieldLink RX6 24 "TiedToTown$Town" "due" "[I") (List.mem_of_getElem? (i := 6) rfl)
  have lkf27 := hts (.fieldLink RX6 27 "TiedToTown$Town" "kind" "[I") (List.mem_of_getElem? (i := 7) rfl)
  have lkf43 := hts (.fieldLink RX6 43 "TiedToTown$Town" "tied" "I") (List.mem_of_getElem? (i := 8) rfl)
  refine lv_aload_n hx hb dX6_addKnot_0 rfl (lv_at hl 0 rfl) ?_
  refine va_get (D := D) (ci := 6) (v := .int (o0.1 9)) (C := RX6) (T := TX6) (N := 12) hx hb hts hinX6 hown hK.1 hP 0 rfl rfl 9 (by decide) lkf40 (fun _ h9 => h9) rfl dX6_addKnot_1 ?_
  refine lv_bipush (v := (8 : Int32)) hx hb dX6_addKnot_4 (by decide) ?_
  refine lv_icmp_ge (tgt := 23) hx hb dX6_addKnot_6 (by decide) (fun hc => ?_) (fun hc => ?_)
  · have h := if_t hc h
    refine lv_iconst (v := (0 : Int32)) hx hb dX6_addKnot_23 (by decide) ?_
    cases h
    exact hend _ _ _ _ (by decide) hP hD hS dX6_addKnot_24
  · have h := if_f hc h
    refine lv_aload_n hx hb dX6_addKnot_9 rfl (lv_at hl 0 rfl) ?_
    refine lv_iload_n hx hb dX6_addKnot_10 rfl (lv_at hl 1 rfl) ?_
    refine lv_iload_n hx hb dX6_addKnot_11 rfl (lv_at hl 2 rfl) ?_
    refine lv_iload_n hx hb dX6_addKnot_12 rfl (lv_at hl 3 rfl) ?_
    refine lv_iload hx hb dX6_addKnot_13 (lv_at hl 4 rfl) ?_
    refine lv_iload hx hb dX6_addKnot_15 (lv_at hl 5 rfl) ?_
    obtain ⟨z1, hz1, h⟩ := bd_some h
    refine cR_V (As := [.int x1, .int x2, .int x3, .int x4, .int x5]) (rest := []) ⟨hx, hb, hml, hown, hts⟩ (c_X6_suits l D cA a0 o0 x1 x2 x3 x4 x5 z1 hz1) (cwV 5 hts gX6_addKnot_X6_suits rfl rfl rfl hd_X6_suits ⟨(Nat.le_of_ble_eq_true rfl), (Nat.le_of_ble_eq_true rfl)⟩) (recvK hK hP 0 6 rfl rfl) hK hP [0, 1, 2, 3, 4, 5, 6] rfl rfl hl.1 rfl (Nat.le_of_ble_eq_true rfl) dX6_addKnot_17 ⟨(Nat.le_of_ble_eq_true rfl), (Nat.le_of_ble_eq_true rfl)⟩ ?_
    refine lv_if_ne (tgt := 25) hx hb dX6_addKnot_20 (by decide) (fun hc => ?_) (fun hc => ?_)
    · have h := if_f hc h
      refine lv_aload_n hx hb dX6_addKnot_25 rfl (lv_at hl 0 rfl) ?_
      refine va_get (D := D) (ci := 6) (v := .ref (a0 1)) (C := RX6) (T := TX6) (N := 12) hx hb hts hinX6 hown hK.1 hP 0 rfl rfl 0 (by decide) lkf9 (fun _ h9 => h9) rfl dX6_addKnot_26 ?_
      refine lv_aload_n hx hb dX6_addKnot_29 rfl (lv_at hl 0 rfl) ?_
      refine va_get (D := D) (ci := 6) (v := .int (o0.1 9)) (C := RX6) (T := TX6) (N := 12) hx hb hts hinX6 hown hK.1 hP 0 rfl rfl 9 (by decide) lkf40 (fun _ h9 => h9) rfl dX6_addKnot_30 ?_
      refine lv_iload_n hx hb dX6_addKnot_33 rfl (lv_at hl 1 rfl) ?_
      obtain ⟨hi2, h⟩ := gd_some h
      refine iast (j := (o0.1 9).toNatClampNeg) (wn := (wX6 cA a0 (sA o0 0 (o0.1 9).toNatClampNeg x1))) hx hb hK hP hD hS 1 rfl rfl (ck_in hi2) dX6_addKnot_34 rfl (fun H locs hP hD hS => ?_)
      obtain ⟨s3, es3⟩ : ∃ z, z = sA o0 0 (o0.1 9).toNatClampNeg x1 := ⟨_, rfl⟩
      rw [← es3] at hP hD
      have h := nm_ap es3 h
      refine lv_aload_n hx hb dX6_addKnot_35 rfl (lv_at hl 0 rfl) ?_
      refine va_get (D := D) (ci := 6) (v := .ref (a0 2)) (C := RX6) (T := TX6) (N := 12) hx hb hts hinX6 hown hK.1 hP 0 rfl rfl 1 (by decide) lkf15 (fun _ h9 => h9) rfl dX6_addKnot_36 ?_
      refine lv_aload_n hx hb dX6_addKnot_39 rfl (lv_at hl 0 rfl) ?_
      refine va_get (D := D) (ci := 6) (v := .int (s3.1 9)) (C := RX6) (T := TX6) (N := 12) hx hb hts hinX6 hown hK.1 hP 0 rfl rfl 9 (by decide) lkf40 (fun _ h9 => h9) rfl dX6_addKnot_40 ?_
      refine lv_iload_n hx hb dX6_addKnot_43 rfl (lv_at hl 2 rfl) ?_
      obtain ⟨hi4, h⟩ := gd_some h
      refine iast (j := (s3.1 9).toNatClampNeg) (wn := (wX6 cA a0 (sA s3 1 (s3.1 9).toNatClampNeg x2))) hx hb hK hP hD hS 2 rfl rfl (ck_in hi4) dX6_addKnot_44 rfl (fun H locs hP hD hS => ?_)
      obtain ⟨s5, es5⟩ : ∃ z, z = sA s3 1 (s3.1 9).toNatClampNeg x2 := ⟨_, rfl⟩
      rw [← es5] at hP hD
      have h := nm_ap es5 h
      refine lv_aload_n hx hb dX6_addKnot_45 rfl (lv_at hl 0 rfl) ?_
      refine va_get (D := D) (ci := 6) (v := .ref (a0 3)) (C := RX6) (T := TX6) (N := 12) hx hb hts hinX6 hown hK.1 hP 0 rfl rfl 2 (by decide) lkf18 (fun _ h9 => h9) rfl dX6_addKnot_46 ?_
      refine lv_aload_n hx hb dX6_addKnot_49 rfl (lv_at hl 0 rfl) ?_
      refine va_get (D := D) (ci := 6) (v := .int (s5.1 9)) (C := RX6) (T := TX6) (N := 12) hx hb hts hinX6 hown hK.1 hP 0 rfl rfl 9 (by decide) lkf40 (fun _ h9 => h9) rfl dX6_addKnot_50 ?_
      refine lv_iload_n hx hb dX6_addKnot_53 rfl (lv_at hl 1 rfl) ?_
      obtain ⟨z6, hz6, h⟩ := bd_some h
      refine cR_SN (As := [.int x1]) (rest := [.int (s5.1 9), .ref (a0 3)]) ⟨hx, hb, hml, hown, hts⟩ (c_X7_bit l D cA  x1 z6 hz6) ⟨va_cnB 1 hts gX6_addKnot_X7_bit_n49 rfl rfl rfl (hK.2 _ (List.mem_of_getElem? (i := 27) rfl) : va_Nw (Cond.methodLinkNest RX6 49 yX7_bit "TiedToTown") s) (hts (.initialized RX7) (List.mem_of_getElem? (i := 24) rfl)) hd_X7_bit.2 ⟨(Nat.le_of_ble_eq_true rfl), (Nat.le_of_ble_eq_true rfl)⟩, hts (.static yX7_bit) (List.mem_of_getElem? (i := 23) rfl), trivial⟩ hK hP [] rfl rfl hl.1 rfl (Nat.le_of_ble_eq_true rfl) dX6_addKnot_54 ⟨(Nat.le_of_ble_eq_true rfl), (Nat.le_of_ble_eq_true rfl)⟩ ?_
      refine lv_iload_n hx hb dX6_addKnot_57 rfl (lv_at hl 2 rfl) ?_
      obtain ⟨z7, hz7, h⟩ := bd_some h
      refine cR_SN (As := [.int x2]) (rest := [.int z6, .int (s5.1 9), .ref (a0 3)]) ⟨hx, hb, hml, hown, hts⟩ (c_X7_bit l D cA  x2 z7 hz7) ⟨va_cnB 1 hts gX6_addKnot_X7_bit_n49 rfl rfl rfl (hK.2 _ (List.mem_of_getElem? (i := 27) rfl) : va_Nw (Cond.methodLinkNest RX6 49 yX7_bit "TiedToTown") s) (hts (.initialized RX7) (List.mem_of_getElem? (i := 24) rfl)) hd_X7_bit.2 ⟨(Nat.le_of_ble_eq_true rfl), (Nat.le_of_ble_eq_true rfl)⟩, hts (.static yX7_bit) (List.mem_of_getElem? (i := 23) rfl), trivial⟩ hK hP [] rfl rfl hl.1 rfl (Nat.le_of_ble_eq_true rfl) dX6_addKnot_58 ⟨(Nat.le_of_ble_eq_true rfl), (Nat.le_of_ble_eq_true rfl)⟩ ?_
      refine lv_ior hx hb dX6_addKnot_61 ?_
      obtain ⟨hi8, h⟩ := gd_some h
      refine iast (j := (s5.1 9).toNatClampNeg) (wn := (wX6 cA a0 (sA s5 2 (s5.1 9).toNatClampNeg (z6 ||| z7)))) hx hb hK hP hD hS 3 rfl rfl (ck_in hi8) dX6_addKnot_62 rfl (fun H locs hP hD hS => ?_)
      obtain ⟨s9, es9⟩ : ∃ z, z = sA s5 2 (s5.1 9).toNatClampNeg (z6 ||| z7) := ⟨_, rfl⟩
      rw [← es9] at hP hD
      have h := nm_ap es9 h
      refine lv_aload_n hx hb dX6_addKnot_63 rfl (lv_at hl 0 rfl) ?_
      refine va_get (D := D) (ci := 6) (v := .ref (a0 4)) (C := RX6) (T := TX6) (N := 12) hx hb hts hinX6 hown hK.1 hP 0 rfl rfl 3 (by decide) lkf21 (fun _ h9 => h9) rfl dX6_addKnot_64 ?_
      refine lv_aload_n hx hb dX6_addKnot_67 rfl (lv_at hl 0 rfl) ?_
      refine va_get (D := D) (ci := 6) (v := .int (s9.1 9)) (C := RX6) (T := TX6) (N := 12) hx hb hts hinX6 hown hK.1 hP 0 rfl rfl 9 (by decide) lkf40 (fun _ h9 => h9) rfl dX6_addKnot_68 ?_
      refine lv_iload_n hx hb dX6_addKnot_71 rfl (lv_at hl 3 rfl) ?_
      obtain ⟨hi10, h⟩ := gd_some h
      refine iast (j := (s9.1 9).toNatClampNeg) (wn := (wX6 cA a0 (sA s9 3 (s9.1 9).toNatClampNeg x3))) hx hb hK hP hD hS 4 rfl rfl (ck_in hi10) dX6_addKnot_72 rfl (fun H locs hP hD hS => ?_)
      obtain ⟨s11, es11⟩ : ∃ z, z = sA s9 3 (s9.1 9).toNatClampNeg x3 := ⟨_, rfl⟩
      rw [← es11] at hP hD
      have h := nm_ap es11 h
      refine lv_aload_n hx hb dX6_addKnot_73 rfl (lv_at hl 0 rfl) ?_
      refine va_get (D := D) (ci := 6) (v := .ref (a0 5)) (C := RX6) (T := TX6) (N := 12) hx hb hts hinX6 hown hK.1 hP 0 rfl rfl 4 (by decide) lkf24 (fun _ h9 => h9) rfl dX6_addKnot_74 ?_
      refine lv_aload_n hx hb dX6_addKnot_77 rfl (lv_at hl 0 rfl) ?_
      refine va_get (D := D) (ci := 6) (v := .int (s11.1 9)) (C := RX6) (T := TX6) (N := 12) hx hb hts hinX6 hown hK.1 hP 0 rfl rfl 9 (by decide) lkf40 (fun _ h9 => h9) rfl dX6_addKnot_78 ?_
      refine lv_iload hx hb dX6_addKnot_81 (lv_at hl 4 rfl) ?_
      obtain ⟨hi12, h⟩ := gd_some h
      refine iast (j := (s11.1 9).toNatClampNeg) (wn := (wX6 cA a0 (sA s11 4 (s11.1 9).toNatClampNeg x4))) hx hb hK hP hD hS 5 rfl rfl (ck_in hi12) dX6_addKnot_83 rfl (fun H locs hP hD hS => ?_)
      obtain ⟨s13, es13⟩ : ∃ z, z = sA s11 4 (s11.1 9).toNatClampNeg x4 := ⟨_, rfl⟩
      rw [← es13] at hP hD
      have h := nm_ap es13 h
      refine lv_aload_n hx hb dX6_addKnot_84 rfl (lv_at hl 0 rfl) ?_
      refine va_get (D := D) (ci := 6) (v := .ref (a0 6)) (C := RX6) (T := TX6) (N := 12) hx hb hts hinX6 hown hK.1 hP 0 rfl rfl 5 (by decide) lkf27 (fun _ h9 => h9) rfl dX6_addKnot_85 ?_
      refine lv_aload_n hx hb dX6_addKnot_88 rfl (lv_at hl 0 rfl) ?_
      refine va_get (D := D) (ci := 6) (v := .int (s13.1 9)) (C := RX6) (T := TX6) (N := 12) hx hb hts hinX6 hown hK.1 hP 0 rfl rfl 9 (by decide) lkf40 (fun _ h9 => h9) rfl dX6_addKnot_89 ?_
      refine lv_iload hx hb dX6_addKnot_92 (lv_at hl 5 rfl) ?_
      obtain ⟨hi14, h⟩ := gd_some h
      refine iast (j := (s13.1 9).toNatClampNeg) (wn := (wX6 cA a0 (sA s13 5 (s13.1 9).toNatClampNeg x5))) hx hb hK hP hD hS 6 rfl rfl (ck_in hi14) dX6_addKnot_94 rfl (fun H locs hP hD hS => ?_)
      obtain ⟨s15, es15⟩ : ∃ z, z = sA s13 5 (s13.1 9).toNatClampNeg x5 := ⟨_, rfl⟩
      rw [← es15] at hP hD
      have h := nm_ap es15 h
      refine lv_aload_n hx hb dX6_addKnot_95 rfl (lv_at hl 0 rfl) ?_
      refine lv_dup hx hb dX6_addKnot_96 rfl ?_
      refine va_get (D := D) (ci := 6) (v := .int (s15.1 10)) (C := RX6) (T := TX6) (N := 12) hx hb hts hinX6 hown hK.1 hP 0 rfl rfl 10 (by decide) lkf43 (fun _ h9 => h9) rfl dX6_addKnot_97 ?_
      refine lv_aload_n hx hb dX6_addKnot_100 rfl (lv_at hl 0 rfl) ?_
      refine va_get (D := D) (ci := 6) (v := .int (s15.1 9)) (C := RX6) (T := TX6) (N := 12) hx hb hts hinX6 hown hK.1 hP 0 rfl rfl 9 (by decide) lkf40 (fun _ h9 => h9) rfl dX6_addKnot_101 ?_
      obtain ⟨z16, hz16, h⟩ := bd_some h
      refine cR_SN (As := [.int (s15.1 9)]) (rest := [.int (s15.1 10), .ref (a0 0)]) ⟨hx, hb, hml, hown, hts⟩ (c_X7_bit l D cA  (s15.1 9) z16 hz16) ⟨va_cnB 1 hts gX6_addKnot_X7_bit_n49 rfl rfl rfl (hK.2 _ (List.mem_of_getElem? (i := 27) rfl) : va_Nw (Cond.methodLinkNest RX6 49 yX7_bit "TiedToTown") s) (hts (.initialized RX7) (List.mem_of_getElem? (i := 24) rfl)) hd_X7_bit.2 ⟨(Nat.le_of_ble_eq_true rfl), (Nat.le_of_ble_eq_true rfl)⟩, hts (.static yX7_bit) (List.mem_of_getElem? (i := 23) rfl), trivial⟩ hK hP [] rfl rfl hl.1 rfl (Nat.le_of_ble_eq_true rfl) dX6_addKnot_104 ⟨(Nat.le_of_ble_eq_true rfl), (Nat.le_of_ble_eq_true rfl)⟩ ?_
      refine lv_ior hx hb dX6_addKnot_107 ?_
      refine va_put (D := D) (ci := 6) (v := .int ((s15.1 10) ||| z16)) (ty := .int) (C := RX6) (T := TX6) (N := 12) hx hb hts hinX6 tyX6 tyX6_ok nmX6 hown hK.1 hP hD hS 0 rfl rfl 10 (by decide) lkf43 (fun _ h9 => h9) rfl (by decide +kernel) rfl rfl (Nat.le_of_ble_eq_true rfl) dX6_addKnot_108 (fun H locs hP hD hS => ?_)
      have hP : va_P D vwCl (wX6 cA a0 (sF s15 10 ((s15.1 10) ||| z16))) H := hP
      have hD : va_D A (wX6 cA a0 (sF s15 10 ((s15.1 10) ||| z16))) := hD
      obtain ⟨s17, es17⟩ : ∃ z, z = sF s15 10 ((s15.1 10) ||| z16) := ⟨_, rfl⟩
      rw [← es17] at hP hD
      have h := nm_ap es17 h
      refine lv_aload_n hx hb dX6_addKnot_111 rfl (lv_at hl 0 rfl) ?_
      refine lv_dup hx hb dX6_addKnot_112 rfl ?_
      refine va_get (D := D) (ci := 6) (v := .int (s17.1 9)) (C := RX6) (T := TX6) (N := 12) hx hb hts hinX6 hown hK.1 hP 0 rfl rfl 9 (by decide) lkf40 (fun _ h9 => h9) rfl dX6_addKnot_113 ?_
      refine lv_iconst (v := (1 : Int32)) hx hb dX6_addKnot_116 (by decide) ?_
      refine lv_iadd hx hb dX6_addKnot_117 ?_
      refine va_put (D := D) (ci := 6) (v := .int ((s17.1 9) + (1 : Int32))) (ty := .int) (C := RX6) (T := TX6) (N := 12) hx hb hts hinX6 tyX6 tyX6_ok nmX6 hown hK.1 hP hD hS 0 rfl rfl 9 (by decide) lkf40 (fun _ h9 => h9) rfl (by decide +kernel) rfl rfl (Nat.le_of_ble_eq_true rfl) dX6_addKnot_118 (fun H locs hP hD hS => ?_)
      have hP : va_P D vwCl (wX6 cA a0 (sF s17 9 ((s17.1 9) + (1 : Int32)))) H := hP
      have hD : va_D A (wX6 cA a0 (sF s17 9 ((s17.1 9) + (1 : Int32)))) := hD
      obtain ⟨s18, es18⟩ : ∃ z, z = sF s17 9 ((s17.1 9) + (1 : Int32)) := ⟨_, rfl⟩
      rw [← es18] at hP hD
      have h := nm_ap es18 h
      refine lv_iconst (v := (1 : Int32)) hx hb dX6_addKnot_121 (by decide) ?_
      cases h
      exact hend _ _ _ _ (by decide) hP hD hS dX6_addKnot_122
    · have h := if_t hc h
      refine lv_iconst (v := (0 : Int32)) hx hb dX6_addKnot_23 (by decide) ?_
      cases h
      exact hend _ _ _ _ (by decide) hP hD hS dX6_addKnot_24
abbrev rmX2_takeItem : Room := ({ frames := 4, cells := 0, slots := 0, locals := 91 } : Room)
set_option maxHeartbeats 4000000 in
set_option maxRecDepth 100000 in
theorem c_X2_takeItem (l : Launch) (D : va_G) (cA : ClassId) (a0 : (Nat → Nat)) (o0 : Ob) (a1 : (Nat → Nat)) (o1 : Ob) (x1 : Int32) (r : Int32) (o1_ : Ob) (h : f_X2_takeItem o0 o1 x1 = some (r, o1_)) : ConW l yX2_takeItem wsX2_takeItem rmX2_takeItem D cA [.ref (a0 0), .int x1, .ref (a1 0)] (wX2 cA a0 o0 ++ wX6 cA a1 o1) r (wX2 cA a0 o0 ++ wX6 cA a1 o1_) := by
  refine ConWZ.enter (cc := cX2_takeItem) (maxL := 3) (by decide) rfl (Nat.le_of_ble_eq_true rfl) ?_
  intro p e s m args below meth c Q A hx hb hml hown hts hK hP hD hA hend ls hl
  have hS : va_S A s.heap s.heap [] := va_S.rf
  have hl : lv_has ls 3 [(0, .ref (a0 0)), (1, .int x1), (2, .ref (a1 0))] := hl
  unfold f_X2_takeItem at h
  have lkf9 := hts (.fieldLink RX2 9 "TiedToTown$Reader" "numbers" "[I") (List.mem_of_getElem? (i := 1) rfl)
  have hinX2 : ∀ w ∈ wsX20, w ∈ wsX2_takeItem := fun w h => List.mem_cons_of_mem _ (List.mem_append_left _ (List.mem_append_right _ h))
  refine lv_iload_n hx hb dX2_takeItem_0 rfl (lv_at hl 1 rfl) ?_
  refine lv_bipush (v := (112 : Int32)) hx hb dX2_takeItem_1 (by decide) ?_
  refine lv_icmp_ne (tgt := 17) hx hb dX2_takeItem_3 (by decide) (fun hc => ?_) (fun hc => ?_)
  · have h := if_f hc h
    refine lv_iload_n hx hb dX2_takeItem_17 rfl (lv_at hl 1 rfl) ?_
    refine lv_bipush (v := (108 : Int32)) hx hb dX2_takeItem_18 (by decide) ?_
    refine lv_icmp_ne (tgt := 34) hx hb dX2_takeItem_20 (by decide) (fun hc => ?_) (fun hc => ?_)
    · have h := if_f hc h
      refine lv_aload_n hx hb dX2_takeItem_34 rfl (lv_at hl 2 rfl) ?_
      refine lv_aload_n hx hb dX2_takeItem_35 rfl (lv_at hl 0 rfl) ?_
      refine va_get (D := D) (ci := 2) (v := .ref (a0 1)) (C := RX2) (T := TX2) (N := 1) hx hb hts hinX2 hown hK.1 hP 0 rfl rfl 0 (by decide) lkf9 (fun _ h9 => h9) rfl dX2_takeItem_36 ?_
      refine lv_iconst (v := (0 : Int32)) hx hb dX2_takeItem_39 (by decide) ?_
      refine iald (q0 := 0) (t0 := 0) (j := 0) hx hb hK hP 1 rfl rfl (vp_in_iff.mpr (by decide)) dX2_takeItem_40 ?_
      refine lv_aload_n hx hb dX2_takeItem_41 rfl (lv_at hl 0 rfl) ?_
      refine va_get (D := D) (ci := 2) (v := .ref (a0 1)) (C := RX2) (T := TX2) (N := 1) hx hb hts hinX2 hown hK.1 hP 0 rfl rfl 0 (by decide) lkf9 (fun _ h9 => h9) rfl dX2_takeItem_42 ?_
      refine lv_iconst (v := (1 : Int32)) hx hb dX2_takeItem_45 (by decide) ?_
      refine iald (q0 := 0) (t0 := 0) (j := 1) hx hb hK hP 1 rfl rfl (vp_in_iff.mpr (by decide)) dX2_takeItem_46 ?_
      refine lv_aload_n hx hb dX2_takeItem_47 rfl (lv_at hl 0 rfl) ?_
      refine va_get (D := D) (ci := 2) (v := .ref (a0 1)) (C := RX2) (T := TX2) (N := 1) hx hb hts hinX2 hown hK.1 hP 0 rfl rfl 0 (by decide) lkf9 (fun _ h9 => h9) rfl dX2_takeItem_48 ?_
      refine lv_iconst (v := (2 : Int32)) hx hb dX2_takeItem_51 (by decide) ?_
      refine iald (q0 := 0) (t0 := 0) (j := 2) hx hb hK hP 1 rfl rfl (vp_in_iff.mpr (by decide)) dX2_takeItem_52 ?_
      refine lv_aload_n hx hb dX2_takeItem_53 rfl (lv_at hl 0 rfl) ?_
      refine va_get (D := D) (ci := 2) (v := .ref (a0 1)) (C := RX2) (T := TX2) (N := 1) hx hb hts hinX2 hown hK.1 hP 0 rfl rfl 0 (by decide) lkf9 (fun _ h9 => h9) rfl dX2_takeItem_54 ?_
      refine lv_iconst (v := (3 : Int32)) hx hb dX2_takeItem_57 (by decide) ?_
      refine iald (q0 := 0) (t0 := 0) (j := 3) hx hb hK hP 1 rfl rfl (vp_in_iff.mpr (by decide)) dX2_takeItem_58 ?_
      refine lv_aload_n hx hb dX2_takeItem_59 rfl (lv_at hl 0 rfl) ?_
      refine va_get (D := D) (ci := 2) (v := .ref (a0 1)) (C := RX2) (T := TX2) (N := 1) hx hb hts hinX2 hown hK.1 hP 0 rfl rfl 0 (by decide) lkf9 (fun _ h9 => h9) rfl dX2_takeItem_60 ?_
      refine lv_iconst (v := (4 : Int32)) hx hb dX2_takeItem_63 (by decide) ?_
      refine iald (q0 := 0) (t0 := 0) (j := 4) hx hb hK hP 1 rfl rfl (vp_in_iff.mpr (by decide)) dX2_takeItem_64 ?_
      obtain ⟨z1, hz1, h⟩ := bd_some h
      refine cW_V (As := [.int (o0.2 0 0), .int (o0.2 0 1), .int (o0.2 0 2), .int (o0.2 0 3), .int (o0.2 0 4)]) (rest := []) (wn := (wX2 cA a0 o0 ++ wX6 cA a1 z1.2)) ⟨hx, hb, hml, hown, hts⟩ (c_X6_addKnot l D cA a1 o1 (o0.2 0 0) (o0.2 0 1) (o0.2 0 2) (o0.2 0 3) (o0.2 0 4) z1.1 z1.2 hz1) (cwV 5 hts gX2_takeItem_X6_addKnot rfl rfl rfl hd_X6_addKnot ⟨(Nat.le_of_ble_eq_true rfl), (Nat.le_of_ble_eq_true rfl)⟩) (recvK hK hP 2 6 rfl rfl) hK hP hD hS hA [2, 3, 4, 5, 6, 7, 8] [0, 1] [0, 1, 2, 3, 4, 5, 6, 7, 8] rfl rfl rfl rfl rfl rfl rfl rfl hl.1 rfl (Nat.le_of_ble_eq_true rfl) dX2_takeItem_65 ⟨(Nat.le_of_ble_eq_true rfl), (Nat.le_of_ble_eq_true rfl)⟩ (fun H locs hP hD hS => ?_)
      obtain ⟨hz9, h⟩ := gd_some h
      cases h
      exact hend _ _ _ _ (ckz_n hz9) hP hD hS dX2_takeItem_68
    · have h := if_t hc h
      refine lv_aload_n hx hb dX2_takeItem_23 rfl (lv_at hl 2 rfl) ?_
      refine lv_aload_n hx hb dX2_takeItem_24 rfl (lv_at hl 0 rfl) ?_
      refine va_get (D := D) (ci := 2) (v := .ref (a0 1)) (C := RX2) (T := TX2) (N := 1) hx hb hts hinX2 hown hK.1 hP 0 rfl rfl 0 (by decide) lkf9 (fun _ h9 => h9) rfl dX2_takeItem_25 ?_
      refine lv_iconst (v := (0 : Int32)) hx hb dX2_takeItem_28 (by decide) ?_
      refine iald (q0 := 0) (t0 := 0) (j := 0) hx hb hK hP 1 rfl rfl (vp_in_iff.mpr (by decide)) dX2_takeItem_29 ?_
      obtain ⟨z2, hz2, h⟩ := bd_some h
      refine cW_V (As := [.int (o0.2 0 0)]) (rest := []) (wn := (wX2 cA a0 o0 ++ wX6 cA a1 z2.2)) ⟨hx, hb, hml, hown, hts⟩ (c_X6_setLaw l D cA a1 o1 (o0.2 0 0) z2.1 z2.2 hz2) (cwV 1 hts gX2_takeItem_X6_setLaw rfl rfl rfl hd_X6_setLaw ⟨(Nat.le_of_ble_eq_true rfl), (Nat.le_of_ble_eq_true rfl)⟩) (recvK hK hP 2 6 rfl rfl) hK hP hD hS hA [2, 3, 4, 5, 6, 7, 8] [0, 1] [0, 1, 2, 3, 4, 5, 6, 7, 8] rfl rfl rfl rfl rfl rfl rfl rfl hl.1 rfl (Nat.le_of_ble_eq_true rfl) dX2_takeItem_30 ⟨(Nat.le_of_ble_eq_true rfl), (Nat.le_of_ble_eq_true rfl)⟩ (fun H locs hP hD hS => ?_)
      obtain ⟨hz9, h⟩ := gd_some h
      cases h
      exact hend _ _ _ _ (ckz_n hz9) hP hD hS dX2_takeItem_33
  · have h := if_t hc h
    refine lv_aload_n hx hb dX2_takeItem_6 rfl (lv_at hl 2 rfl) ?_
    refine lv_aload_n hx hb dX2_takeItem_7 rfl (lv_at hl 0 rfl) ?_
    refine va_get (D := D) (ci := 2) (v := .ref (a0 1)) (C := RX2) (T := TX2) (N := 1) hx hb hts hinX2 hown hK.1 hP 0 rfl rfl 0 (by decide) lkf9 (fun _ h9 => h9) rfl dX2_takeItem_8 ?_
    refine lv_iconst (v := (0 : Int32)) hx hb dX2_takeItem_11 (by decide) ?_
    refine iald (q0 := 0) (t0 := 0) (j := 0) hx hb hK hP 1 rfl rfl (vp_in_iff.mpr (by decide)) dX2_takeItem_12 ?_
    obtain ⟨z3, hz3, h⟩ := bd_some h
    refine cW_V (As := [.int (o0.2 0 0)]) (rest := []) (wn := (wX2 cA a0 o0 ++ wX6 cA a1 z3.2)) ⟨hx, hb, hml, hown, hts⟩ (c_X6_addPerson l D cA a1 o1 (o0.2 0 0) z3.1 z3.2 hz3) (cwV 1 hts gX2_takeItem_X6_addPerson rfl rfl rfl hd_X6_addPerson ⟨(Nat.le_of_ble_eq_true rfl), (Nat.le_of_ble_eq_true rfl)⟩) (recvK hK hP 2 6 rfl rfl) hK hP hD hS hA [2, 3, 4, 5, 6, 7, 8] [0, 1] [0, 1, 2, 3, 4, 5, 6, 7, 8] rfl rfl rfl rfl rfl rfl rfl rfl hl.1 rfl (Nat.le_of_ble_eq_true rfl) dX2_takeItem_13 ⟨(Nat.le_of_ble_eq_true rfl), (Nat.le_of_ble_eq_true rfl)⟩ (fun H locs hP hD hS => ?_)
    obtain ⟨hz9, h⟩ := gd_some h
    cases h
    exact hend _ _ _ _ (ckz_n hz9) hP hD hS dX2_takeItem_16
abbrev rmX2_read : Room := ({ frames := 5, cells := 0, slots := 0, locals := 113 } : Room)
set_option maxHeartbeats 4000000 in
set_option maxRecDepth 100000 in
theorem c_X2_read (l : Launch) (D : va_G) (cA : ClassId) (a0 : (Nat → Nat)) (o0 : Ob) (a1 : (Nat → Nat)) (o1 : Ob) (a2 : (Nat → Nat)) (o2 : Ob) (r : Int32) (o0_ : Ob) (o2_ : Ob) (h : f_X2_read o0 o1 o2 = some (r, o0_, o2_)) : ConW l yX2_read wsX2_read rmX2_read D cA [.ref (a0 0), .ref (a1 0), .ref (a2 0)] (wX2 cA a0 o0 ++ wX5 cA a1 o1 ++ wX6 cA a2 o2) r (wX2 cA a0 o0_ ++ wX5 cA a1 o1 ++ wX6 cA a2 o2_) := by
  refine ConW.enter (cc := cX2_read) (maxL := 7) (by decide) rfl (Nat.le_of_ble_eq_true rfl) ?_
  intro p e s m args below meth c Q A hx hb hml hown hts hK hP hD hA hend ls hl
  have hS : va_S A s.heap s.heap [] := va_S.rf
  have hl : lv_has ls 7 [(0, .ref (a0 0)), (1, .ref (a1 0)), (2, .ref (a2 0))] := hl
  unfold f_X2_read at h
  have LP9 : ∀ (n : Nat) (x3 : Int32) (x4 : Int32) (o0 : Ob) (o2 : Ob) (H : Heap) (locs : List Loc) (_ : va_P D vwCl (wX2 cA a0 o0 ++ wX5 cA a1 o1 ++ wX6 cA a2 o2) H) (_ : va_D A (wX2 cA a0 o0 ++ wX5 cA a1 o1 ++ wX6 cA a2 o2)) (_ : va_S A s.heap H locs) (ls : Array Slot) (_ : lv_has ls 7 [(0, .ref (a0 0)), (1, .ref (a1 0)), (2, .ref (a2 0)), (3, .int x3), (4, .int x4)]) (res : Nat × Int32 × Ob × Ob) (_ : L_X2_read_9 o1 n x3 x4 o0 o2 = some res) (_ : (∀ (H : Heap) (locs : List Loc) (_ : va_P D vwCl (wX2 cA a0 res.2.2.1 ++ wX5 cA a1 o1 ++ wX6 cA a2 res.2.2.2) H) (_ : va_D A (wX2 cA a0 res.2.2.1 ++ wX5 cA a1 o1 ++ wX6 cA a2 res.2.2.2)) (_ : va_S A s.heap H locs) (ls : Array Slot), lv_has ls 7 [(3, .int res.2.1)] → res.1 = 0 → W p l e rmX2_read s m args below meth c H locs 0 0 Q (F0 m 64 ls []))) (_ : (∀ (H : Heap) (locs : List Loc) (_ : va_P D vwCl (wX2 cA a0 res.2.2.1 ++ wX5 cA a1 o1 ++ wX6 cA a2 res.2.2.2) H) (_ : va_D A (wX2 cA a0 res.2.2.1 ++ wX5 cA a1 o1 ++ wX6 cA a2 res.2.2.2)) (_ : va_S A s.heap H locs) (ls : Array Slot), lv_has ls 7 [] → res.1 = 1 → W p l e rmX2_read s m args below meth c H locs 0 0 Q (F0 m 75 ls []))), W p l e rmX2_read s m args below meth c H locs 0 0 Q (F0 m 9 ls []) := by
    intro n
    induction n with
    | zero =>
      intro x3 x4 o0 o2 H locs hP hD hS ls hl res h K0 K1
      exact absurd h (fun q : (none : Option (Nat × Int32 × Ob × Ob)) = some res => by cases q)
    | succ n ih =>
      intro x3 x4 o0 o2 H locs hP hD hS ls hl res h K0 K1
      have h : L_X2_read_9_step o1 (L_X2_read_9 o1 n) x3 x4 o0 o2 = some res := h
      unfold L_X2_read_9_step at h
      refine lv_iload hx hb dX2_read_9 (lv_at hl 4 rfl) ?_
      refine lv_sipush (v := (300 : Int32)) hx hb dX2_read_11 (by decide) ?_
      refine lv_icmp_ge (tgt := 75) hx hb dX2_read_14 (by decide) (fun hc => ?_) (fun hc => ?_)
      · have h := if_t hc h
        cases h
        exact K1 _ _ hP hD hS _ (lv_sub hl [] rfl) rfl
      · have h := if_f hc h
        refine lv_iload_n hx hb dX2_read_17 rfl (lv_at hl 3 rfl) ?_
        refine lv_aload_n hx hb dX2_read_18 rfl (lv_at hl 1 rfl) ?_
        obtain ⟨z1, hz1, h⟩ := bd_some h
        refine cR_V (As := []) (rest := [.int x3]) ⟨hx, hb, hml, hown, hts⟩ (c_X5_size l D cA a1 o1  z1 hz1) (cwV 0 hts gX2_read_X5_size rfl rfl rfl hd_X5_size ⟨(Nat.le_of_ble_eq_true rfl), (Nat.le_of_ble_eq_true rfl)⟩) (recvK hK hP 2 5 rfl rfl) hK hP [2, 3] rfl rfl hl.1 rfl (Nat.le_of_ble_eq_true rfl) dX2_read_19 ⟨(Nat.le_of_ble_eq_true rfl), (Nat.le_of_ble_eq_true rfl)⟩ ?_
        refine lv_icmp_ge (tgt := 75) hx hb dX2_read_22 (by decide) (fun hc => ?_) (fun hc => ?_)
        · have h := if_t hc h
          cases h
          exact K1 _ _ hP hD hS _ (lv_sub hl [] rfl) rfl
        · have h := if_f hc h
          refine lv_aload_n hx hb dX2_read_25 rfl (lv_at hl 1 rfl) ?_
          refine lv_iload_n hx hb dX2_read_26 rfl (lv_at hl 3 rfl) ?_
          obtain ⟨z2, hz2, h⟩ := bd_some h
          refine cR_V (As := [.int x3]) (rest := []) ⟨hx, hb, hml, hown, hts⟩ (c_X5_at l D cA a1 o1 x3 z2 hz2) (cwV 1 hts gX2_read_X5_at rfl rfl rfl hd_X5_at ⟨(Nat.le_of_ble_eq_true rfl), (Nat.le_of_ble_eq_true rfl)⟩) (recvK hK hP 2 5 rfl rfl) hK hP [2, 3] rfl rfl hl.1 rfl (Nat.le_of_ble_eq_true rfl) dX2_read_27 ⟨(Nat.le_of_ble_eq_true rfl), (Nat.le_of_ble_eq_true rfl)⟩ ?_
          refine lv_istore (lv' := [(5, .int z2), (0, .ref (a0 0)), (1, .ref (a1 0)), (2, .ref (a2 0)), (3, .int x3), (4, .int x4)]) hx hb dX2_read_30 hl (by decide) rfl (fun ls hl => ?_)
          refine lv_aload_n hx hb dX2_read_32 rfl (lv_at hl 1 rfl) ?_
          refine lv_aload_n hx hb dX2_read_33 rfl (lv_at hl 2 rfl) ?_
          refine lv_iload_n hx hb dX2_read_34 rfl (lv_at hl 4 rfl) ?_
          refine lv_iconst (v := (1 : Int32)) hx hb dX2_read_35 (by decide) ?_
          refine lv_iadd hx hb dX2_read_36 ?_
          refine lv_iload hx hb dX2_read_37 (lv_at hl 0 rfl) ?_
          obtain ⟨z3, hz3, h⟩ := bd_some h
          refine cR_S (As := [.int z2]) (rest := [.int (x3 + (1 : Int32)), .ref (a1 0), .ref (a0 0)]) ⟨hx, hb, hml, hown, hts⟩ (c_X2_numbersOf l D cA  z2 z3 hz3) (va_cwS 1 hts gX2_read_X2_numbersOf rfl rfl rfl hd_X2_numbersOf.2 ⟨(Nat.le_of_ble_eq_true rfl), (Nat.le_of_ble_eq_true rfl)⟩) hK hP [] rfl rfl hl.1 rfl (Nat.le_of_ble_eq_true rfl) dX2_read_39 ⟨(Nat.le_of_ble_eq_true rfl), (Nat.le_of_ble_eq_true rfl)⟩ ?_
          obtain ⟨z4, hz4, h⟩ := bd_some h
          refine cW_V (As := [.ref (a1 0), .int (x3 + (1 : Int32)), .int z3]) (rest := []) (wn := (wX2 cA a0 z4.2 ++ wX5 cA a1 o1 ++ wX6 cA a2 o2)) ⟨hx, hb, hml, hown, hts⟩ (c_X2_readNumbers l D cA a0 o0 a1 o1 (x3 + (1 : Int32)) z3 z4.1 z4.2 hz4) (cwV 3 hts gX2_read_X2_readNumbers rfl rfl rfl hd_X2_readNumbers ⟨(Nat.le_of_ble_eq_true rfl), (Nat.le_of_ble_eq_true rfl)⟩) (recvK hK hP 0 2 rfl rfl) hK hP hD hS hA [0, 1, 2, 3] [4, 5, 6, 7, 8, 9, 10] [7, 8, 9, 10, 0, 1, 2, 3, 4, 5, 6] rfl rfl rfl rfl rfl rfl rfl rfl hl.1 rfl (Nat.le_of_ble_eq_true rfl) dX2_read_42 ⟨(Nat.le_of_ble_eq_true rfl), (Nat.le_of_ble_eq_true rfl)⟩ (fun H locs hP hD hS => ?_)
          refine lv_topi (fun v5 ev5 => ?_)
          have h := nm_ap ev5 h
          refine lv_istore (lv' := [(6, .int v5), (5, .int z2), (0, .ref (a0 0)), (1, .ref (a1 0)), (2, .ref (a2 0)), (3, .int x3), (4, .int x4)]) hx hb dX2_read_45 hl (by decide) rfl (fun ls hl => ?_)
          refine lv_iload hx hb dX2_read_47 (lv_at hl 0 rfl) ?_
          refine lv_bipush (v := (-4 : Int32)) hx hb dX2_read_49 (by decide) ?_
          refine lv_icmp_eq (tgt := 64) hx hb dX2_read_51 (by decide) (fun hc => ?_) (fun hc => ?_)
          · have h := if_t hc h
            cases h
            exact K0 _ _ hP hD hS _ (lv_sub hl [5] rfl) rfl
          · have h := if_f hc h
            refine lv_aload_n hx hb dX2_read_54 rfl (lv_at hl 2 rfl) ?_
            refine lv_iload hx hb dX2_read_55 (lv_at hl 1 rfl) ?_
            refine lv_aload_n hx hb dX2_read_57 rfl (lv_at hl 4 rfl) ?_
            obtain ⟨z6, hz6, h⟩ := bd_some h
            refine cW_V (As := [.int z2, .ref (a2 0)]) (rest := []) (wn := (wX2 cA a0 z4.2 ++ wX5 cA a1 o1 ++ wX6 cA a2 z6.2)) ⟨hx, hb, hml, hown, hts⟩ (c_X2_takeItem l D cA a0 z4.2 a2 o2 z2 z6.1 z6.2 hz6) (cwV 2 hts gX2_read_X2_takeItem rfl rfl rfl hd_X2_takeItem ⟨(Nat.le_of_ble_eq_true rfl), (Nat.le_of_ble_eq_true rfl)⟩) (recvK hK hP 0 2 rfl rfl) hK hP hD hS hA [0, 1, 4, 5, 6, 7, 8, 9, 10] [2, 3] [2, 3, 0, 1, 4, 5, 6, 7, 8, 9, 10] rfl rfl rfl rfl rfl rfl rfl rfl hl.1 rfl (Nat.le_of_ble_eq_true rfl) dX2_read_58 ⟨(Nat.le_of_ble_eq_true rfl), (Nat.le_of_ble_eq_true rfl)⟩ (fun H locs hP hD hS => ?_)
            refine lv_if_ne (tgt := 66) hx hb dX2_read_61 (by decide) (fun hc => ?_) (fun hc => ?_)
            · have h := if_f hc h
              refine lv_iload hx hb dX2_read_66 (lv_at hl 0 rfl) ?_
              refine lv_istore_n (lv' := [(3, .int v5), (6, .int v5), (5, .int z2), (0, .ref (a0 0)), (1, .ref (a1 0)), (2, .ref (a2 0)), (4, .int x4)]) hx hb dX2_read_68 rfl hl (by decide) rfl (fun ls hl => ?_)
              obtain ⟨v7, ev7⟩ : ∃ y : Int32, y = x4 + (1 : Int32) := ⟨_, rfl⟩
              refine lv_iinc (v := v7) (lv' := [(4, .int v7), (3, .int v5), (6, .int v5), (5, .int z2), (0, .ref (a0 0)), (1, .ref (a1 0)), (2, .ref (a2 0))]) hx hb dX2_read_69 hl (k := 6) rfl (by rw [ev7]; rfl) (by decide) rfl (fun ls hl => ?_)
              have h := nm_ap ev7 h
              refine lv_goto (tgt := 9) hx hb dX2_read_72 (by decide) ?_
              exact ih v5 v7 z4.2 z6.2 _ _ hP hD hS ls (lv_sub hl [4, 5, 6, 1, 0] rfl) _ h K0 K1
            · have h := if_t hc h
              cases h
              exact K0 _ _ hP hD hS _ (lv_sub hl [5] rfl) rfl
  refine lv_aload_n hx hb dX2_read_0 rfl (lv_at hl 2 rfl) ?_
  obtain ⟨z1, hz1, h⟩ := bd_some h
  refine cV_V (As := []) (rest := []) (wn := (wX2 cA a0 o0 ++ wX5 cA a1 o1 ++ wX6 cA a2 z1)) ⟨hx, hb, hml, hown, hts⟩ (c_X6_empty l D cA a2 o2   z1 hz1) (cwV 0 hts gX2_read_X6_empty rfl rfl rfl hd_X6_empty ⟨(Nat.le_of_ble_eq_true rfl), (Nat.le_of_ble_eq_true rfl)⟩) (recvK hK hP 4 6 rfl rfl) hK hP hD hS hA [4, 5, 6, 7, 8, 9, 10] [0, 1, 2, 3] [0, 1, 2, 3, 4, 5, 6, 7, 8, 9, 10] rfl rfl rfl rfl rfl rfl rfl rfl hl.1 rfl (Nat.le_of_ble_eq_true rfl) dX2_read_1 ⟨(Nat.le_of_ble_eq_true rfl), (Nat.le_of_ble_eq_true rfl)⟩ (fun H locs hP hD hS => ?_)
  refine lv_iconst (v := (0 : Int32)) hx hb dX2_read_4 (by decide) ?_
  refine lv_istore_n (lv' := [(3, .int (0 : Int32)), (0, .ref (a0 0)), (1, .ref (a1 0)), (2, .ref (a2 0))]) hx hb dX2_read_5 rfl hl (by decide) rfl (fun ls hl => ?_)
  refine lv_iconst (v := (0 : Int32)) hx hb dX2_read_6 (by decide) ?_
  refine lv_istore (lv' := [(4, .int (0 : Int32)), (3, .int (0 : Int32)), (0, .ref (a0 0)), (1, .ref (a1 0)), (2, .ref (a2 0))]) hx hb dX2_read_7 hl (by decide) rfl (fun ls hl => ?_)
  obtain ⟨z2, hz2, h⟩ := bd_some h
  refine LP9 512 (0 : Int32) (0 : Int32) o0 z1 _ _ hP hD hS ls (lv_sub hl [2, 3, 4, 1, 0] rfl) _ hz2 ?_ ?_
  · intro H locs hP hD hS ls hl hi
    have h := if_t hi h
    refine lv_iload_n hx hb dX2_read_64 rfl (lv_at hl 0 rfl) ?_
    cases h
    exact hend _ _ _ _ hP hD hS dX2_read_65
  · intro H locs hP hD hS ls hl hi
    have h := if_f (by rw [hi]; decide) h
    refine lv_bipush (v := (-4 : Int32)) hx hb dX2_read_75 (by decide) ?_
    cases h
    exact hend _ _ _ _ hP hD hS dX2_read_77
abbrev rmX3_size : Room := ({ frames := 0, cells := 0, slots := 0, locals := 0 } : Room)
set_option maxHeartbeats 4000000 in
set_option maxRecDepth 100000 in
theorem c_X3_size (l : Launch) (D : va_G) (cA : ClassId) (a0 : (Nat → Nat)) (o0 : Ob) (r : Int32) (h : f_X3_size o0 = some r) : ConR l yX3_size wsX3_size rmX3_size D cA [.ref (a0 0)] (wX3 cA a0 o0) r := by
  refine ConR.enter (cc := cX3_size) (maxL := 1) (by decide) rfl (Nat.le_of_ble_eq_true rfl) ?_
  intro p e s m args below meth c Q hx hb hml hown hts hK hP  hend ls hl
  have hl : lv_has ls 1 [(0, .ref (a0 0))] := hl
  unfold f_X3_size at h
  have lkf15 := hts (.fieldLink RX3 15 "TiedToTown$Rope" "size" "I") (List.mem_of_getElem? (i := 1) rfl)
  have hinX3 : ∀ w ∈ wsX30, w ∈ wsX3_size := fun w h => List.mem_cons_of_mem _ (List.mem_append_right _ h)
  refine lv_aload_n hx hb dX3_size_0 rfl (lv_at hl 0 rfl) ?_
  refine va_get (D := D) (ci := 3) (v := .int (o0.1 2)) (C := RX3) (T := TX3) (N := 3) hx hb hts hinX3 hown hK.1 hP 0 rfl rfl 2 (by decide) lkf15 (fun _ h9 => h9) rfl dX3_size_1 ?_
  cases h
  exact hend _ _ dX3_size_4
abbrev rmX3_loosenedSize : Room := ({ frames := 0, cells := 0, slots := 0, locals := 0 } : Room)
set_option maxHeartbeats 4000000 in
set_option maxRecDepth 100000 in
theorem c_X3_loosenedSize (l : Launch) (D : va_G) (cA : ClassId) (a0 : (Nat → Nat)) (o0 : Ob) (r : Int32) (h : f_X3_loosenedSize o0 = some r) : ConR l yX3_loosenedSize wsX3_loosenedSize rmX3_loosenedSize D cA [.ref (a0 0)] (wX3 cA a0 o0) r := by
  refine ConR.enter (cc := cX3_loosenedSize) (maxL := 1) (by decide) rfl (Nat.le_of_ble_eq_true rfl) ?_
  intro p e s m args below meth c Q hx hb hml hown hts hK hP  hend ls hl
  have hl : lv_has ls 1 [(0, .ref (a0 0))] := hl
  unfold f_X3_loosenedSize at h
  have lkf19 := hts (.fieldLink RX3 19 "TiedToTown$Rope" "left" "I") (List.mem_of_getElem? (i := 1) rfl)
  have hinX3 : ∀ w ∈ wsX30, w ∈ wsX3_loosenedSize := fun w h => List.mem_cons_of_mem _ (List.mem_append_right _ h)
  refine lv_aload_n hx hb dX3_loosenedSize_0 rfl (lv_at hl 0 rfl) ?_
  refine va_get (D := D) (ci := 3) (v := .int (o0.1 1)) (C := RX3) (T := TX3) (N := 3) hx hb hts hinX3 hown hK.1 hP 0 rfl rfl 1 (by decide) lkf19 (fun _ h9 => h9) rfl dX3_loosenedSize_1 ?_
  cases h
  exact hend _ _ dX3_loosenedSize_4
abbrev rmX3_empty : Room := ({ frames := 0, cells := 0, slots := 0, locals := 0 } : Room)
set_option maxHeartbeats 4000000 in
set_option maxRecDepth 100000 in
theorem c_X3_empty (l : Launch) (D : va_G) (cA : ClassId) (a0 : (Nat → Nat)) (o0 : Ob) (o0_ : Ob) (h : f_X3_empty o0 = some o0_) : ConV l yX3_empty wsX3_empty rmX3_empty D cA [.ref (a0 0)] (wX3 cA a0 o0) (wX3 cA a0 o0_) := by
  refine ConV.enter (cc := cX3_empty) (maxL := 1) (by decide) rfl (Nat.le_of_ble_eq_true rfl) ?_
  intro p e s m args below meth c Q A hx hb hml hown hts hK hP hD hA hend ls hl
  have hS : va_S A s.heap s.heap [] := va_S.rf
  have hl : lv_has ls 1 [(0, .ref (a0 0))] := hl
  unfold f_X3_empty at h
  have lkf19 := hts (.fieldLink RX3 19 "TiedToTown$Rope" "left" "I") (List.mem_of_getElem? (i := 1) rfl)
  have hinX3 : ∀ w ∈ wsX30, w ∈ wsX3_empty := fun w h => List.mem_cons_of_mem _ (List.mem_append_right _ h)
  have lkf15 := hts (.fieldLink RX3 15 "TiedToTown$Rope" "size" "I") (List.mem_of_getElem? (i := 2) rfl)
  refine lv_aload_n hx hb dX3_empty_0 rfl (lv_at hl 0 rfl) ?_
  refine lv_iconst (v := (0 : Int32)) hx hb dX3_empty_1 (by decide) ?_
  refine va_put (D := D) (ci := 3) (v := .int (0 : Int32)) (ty := .int) (C := RX3) (T := TX3) (N := 3) hx hb hts hinX3 tyX3 tyX3_ok nmX3 hown hK.1 hP hD hS 0 rfl rfl 1 (by decide) lkf19 (fun _ h9 => h9) rfl (by decide +kernel) rfl rfl (Nat.le_of_ble_eq_true rfl) dX3_empty_2 (fun H locs hP hD hS => ?_)
  have hP : va_P D vwCl (wX3 cA a0 (sF o0 1 (0 : Int32))) H := hP
  have hD : va_D A (wX3 cA a0 (sF o0 1 (0 : Int32))) := hD
  obtain ⟨s1, es1⟩ : ∃ z, z = sF o0 1 (0 : Int32) := ⟨_, rfl⟩
  rw [← es1] at hP hD
  have h := nm_ap es1 h
  refine lv_aload_n hx hb dX3_empty_5 rfl (lv_at hl 0 rfl) ?_
  refine lv_iconst (v := (0 : Int32)) hx hb dX3_empty_6 (by decide) ?_
  refine va_put (D := D) (ci := 3) (v := .int (0 : Int32)) (ty := .int) (C := RX3) (T := TX3) (N := 3) hx hb hts hinX3 tyX3 tyX3_ok nmX3 hown hK.1 hP hD hS 0 rfl rfl 2 (by decide) lkf15 (fun _ h9 => h9) rfl (by decide +kernel) rfl rfl (Nat.le_of_ble_eq_true rfl) dX3_empty_7 (fun H locs hP hD hS => ?_)
  have hP : va_P D vwCl (wX3 cA a0 (sF s1 2 (0 : Int32))) H := hP
  have hD : va_D A (wX3 cA a0 (sF s1 2 (0 : Int32))) := hD
  obtain ⟨s2, es2⟩ : ∃ z, z = sF s1 2 (0 : Int32) := ⟨_, rfl⟩
  rw [← es2] at hP hD
  have h := nm_ap es2 h
  cases h
  exact hend _ _ _ _ hP hD hS dX3_empty_10
abbrev rmX3_loosenedAt : Room := ({ frames := 0, cells := 0, slots := 0, locals := 0 } : Room)
set_option maxHeartbeats 4000000 in
set_option maxRecDepth 100000 in
theorem c_X3_loosenedAt (l : Launch) (D : va_G) (cA : ClassId) (a0 : (Nat → Nat)) (o0 : Ob) (x1 : Int32) (r : Int32) (h : f_X3_loosenedAt o0 x1 = some r) : ConR l yX3_loosenedAt wsX3_loosenedAt rmX3_loosenedAt D cA [.ref (a0 0), .int x1] (wX3 cA a0 o0) r := by
  refine ConR.enter (cc := cX3_loosenedAt) (maxL := 2) (by decide) rfl (Nat.le_of_ble_eq_true rfl) ?_
  intro p e s m args below meth c Q hx hb hml hown hts hK hP  hend ls hl
  have hl : lv_has ls 2 [(0, .ref (a0 0)), (1, .int x1)] := hl
  unfold f_X3_loosenedAt at h
  have lkf19 := hts (.fieldLink RX3 19 "TiedToTown$Rope" "left" "I") (List.mem_of_getElem? (i := 1) rfl)
  have hinX3 : ∀ w ∈ wsX30, w ∈ wsX3_loosenedAt := fun w h => List.mem_cons_of_mem _ (List.mem_append_right _ h)
  have lkf9 := hts (.fieldLink RX3 9 "TiedToTown$Rope" "loosened" "[I") (List.mem_of_getElem? (i := 2) rfl)
  refine lv_iload_n hx hb dX3_loosenedAt_0 rfl (lv_at hl 1 rfl) ?_
  refine lv_if_lt (tgt := 30) hx hb dX3_loosenedAt_1 (by decide) (fun hc => ?_) (fun hc => ?_)
  · have h := if_t hc h
    refine lv_bipush (v := (-4 : Int32)) hx hb dX3_loosenedAt_30 (by decide) ?_
    cases h
    exact hend _ _ dX3_loosenedAt_32
  · have h := if_f hc h
    refine lv_iload_n hx hb dX3_loosenedAt_4 rfl (lv_at hl 1 rfl) ?_
    refine lv_aload_n hx hb dX3_loosenedAt_5 rfl (lv_at hl 0 rfl) ?_
    refine va_get (D := D) (ci := 3) (v := .int (o0.1 1)) (C := RX3) (T := TX3) (N := 3) hx hb hts hinX3 hown hK.1 hP 0 rfl rfl 1 (by decide) lkf19 (fun _ h9 => h9) rfl dX3_loosenedAt_6 ?_
    refine lv_icmp_ge (tgt := 30) hx hb dX3_loosenedAt_9 (by decide) (fun hc => ?_) (fun hc => ?_)
    · have h := if_t hc h
      refine lv_bipush (v := (-4 : Int32)) hx hb dX3_loosenedAt_30 (by decide) ?_
      cases h
      exact hend _ _ dX3_loosenedAt_32
    · have h := if_f hc h
      refine lv_iload_n hx hb dX3_loosenedAt_12 rfl (lv_at hl 1 rfl) ?_
      refine lv_aload_n hx hb dX3_loosenedAt_13 rfl (lv_at hl 0 rfl) ?_
      refine va_get (D := D) (ci := 3) (v := .ref (a0 1)) (C := RX3) (T := TX3) (N := 3) hx hb hts hinX3 hown hK.1 hP 0 rfl rfl 0 (by decide) lkf9 (fun _ h9 => h9) rfl dX3_loosenedAt_14 ?_
      refine alen (v := (16 : Int32)) hx hb hK hP 1 rfl (by decide) dX3_loosenedAt_17 ?_
      refine lv_icmp_ge (tgt := 30) hx hb dX3_loosenedAt_18 (by decide) (fun hc => ?_) (fun hc => ?_)
      · have h := if_t hc h
        refine lv_bipush (v := (-4 : Int32)) hx hb dX3_loosenedAt_30 (by decide) ?_
        cases h
        exact hend _ _ dX3_loosenedAt_32
      · have h := if_f hc h
        refine lv_aload_n hx hb dX3_loosenedAt_21 rfl (lv_at hl 0 rfl) ?_
        refine va_get (D := D) (ci := 3) (v := .ref (a0 1)) (C := RX3) (T := TX3) (N := 3) hx hb hts hinX3 hown hK.1 hP 0 rfl rfl 0 (by decide) lkf9 (fun _ h9 => h9) rfl dX3_loosenedAt_22 ?_
        refine lv_iload_n hx hb dX3_loosenedAt_25 rfl (lv_at hl 1 rfl) ?_
        obtain ⟨hi1, h⟩ := gd_some h
        refine iald (q0 := 0) (t0 := 0) (j := x1.toNatClampNeg) hx hb hK hP 1 rfl rfl (ck_in hi1) dX3_loosenedAt_26 ?_
        refine lv_goto (tgt := 32) hx hb dX3_loosenedAt_27 (by decide) ?_
        cases h
        exact hend _ _ dX3_loosenedAt_32
abbrev rmX3_isPair : Room := ({ frames := 0, cells := 0, slots := 0, locals := 0 } : Room)
set_option maxHeartbeats 4000000 in
set_option maxRecDepth 100000 in
theorem c_X3_isPair (l : Launch) (D : va_G) (cA : ClassId) (x0 : Int32) (x1 : Int32) (r : Int32) (h : f_X3_isPair x0 x1 = some r) : ConR l yX3_isPair wsX3_isPair rmX3_isPair D cA [.int x0, .int x1] ([] : va_W) r := by
  refine ConZ.enter (cc := cX3_isPair) (maxL := 2) (by decide) rfl (Nat.le_of_ble_eq_true rfl) ?_
  intro p e s m args below meth c Q hx hb hml hown hts hK hP  hend ls hl
  have hl : lv_has ls 2 [(0, .int x0), (1, .int x1)] := hl
  unfold f_X3_isPair at h
  refine lv_iload_n hx hb dX3_isPair_0 rfl (lv_at hl 0 rfl) ?_
  refine lv_iload_n hx hb dX3_isPair_1 rfl (lv_at hl 1 rfl) ?_
  refine lv_ixor hx hb dX3_isPair_2 ?_
  refine lv_iconst (v := (1 : Int32)) hx hb dX3_isPair_3 (by decide) ?_
  refine lv_icmp_ne (tgt := 11) hx hb dX3_isPair_4 (by decide) (fun hc => ?_) (fun hc => ?_)
  · have h := if_f hc h
    refine lv_iconst (v := (0 : Int32)) hx hb dX3_isPair_11 (by decide) ?_
    cases h
    exact hend _ _ (by decide) dX3_isPair_12
  · have h := if_t hc h
    refine lv_iconst (v := (1 : Int32)) hx hb dX3_isPair_7 (by decide) ?_
    refine lv_goto (tgt := 12) hx hb dX3_isPair_8 (by decide) ?_
    cases h
    exact hend _ _ (by decide) dX3_isPair_12
abbrev rmX3_append : Room := ({ frames := 1, cells := 0, slots := 0, locals := 21 } : Room)
set_option maxHeartbeats 4000000 in
set_option maxRecDepth 100000 in
theorem c_X3_append (l : Launch) (D : va_G) (cA : ClassId) (a0 : (Nat → Nat)) (o0 : Ob) (x1 : Int32) (o0_ : Ob) (h : f_X3_append o0 x1 = some o0_) : ConV l yX3_append wsX3_append rmX3_append D cA [.ref (a0 0), .int x1] (wX3 cA a0 o0) (wX3 cA a0 o0_) := by
  refine ConV.enter (cc := cX3_append) (maxL := 2) (by decide) rfl (Nat.le_of_ble_eq_true rfl) ?_
  intro p e s m args below meth c Q A hx hb hml hown hts hK hP hD hA hend ls hl
  have hS : va_S A s.heap s.heap [] := va_S.rf
  have hl : lv_has ls 2 [(0, .ref (a0 0)), (1, .int x1)] := hl
  unfold f_X3_append at h
  have lkf15 := hts (.fieldLink RX3 15 "TiedToTown$Rope" "size" "I") (List.mem_of_getElem? (i := 1) rfl)
  have hinX3 : ∀ w ∈ wsX30, w ∈ wsX3_append := fun w h => List.mem_cons_of_mem _ (List.mem_append_right _ h)
  have lkf19 := hts (.fieldLink RX3 19 "TiedToTown$Rope" "left" "I") (List.mem_of_getElem? (i := 2) rfl)
  have lkf9 := hts (.fieldLink RX3 9 "TiedToTown$Rope" "loosened" "[I") (List.mem_of_getElem? (i := 3) rfl)
  have JP0_47 : ∀ (x1 : Int32) (o0 : Ob) (H : Heap) (locs : List Loc) (_ : va_P D vwCl (wX3 cA a0 o0) H) (_ : va_D A (wX3 cA a0 o0)) (_ : va_S A s.heap H locs) (ls : Array Slot) (_ : lv_has ls 2 [(0, .ref (a0 0)), (1, .int x1)]) (_ : J_X3_append_47 x1 o0 = some o0_), W p l e rmX3_append s m args below meth c H locs 0 0 Q (F0 m 47 ls []) := by
    intro x1 o0 H locs hP hD hS ls hl h
    unfold J_X3_append_47 at h
    refine lv_aload_n hx hb dX3_append_47 rfl (lv_at hl 0 rfl) ?_
    refine va_get (D := D) (ci := 3) (v := .int (o0.1 1)) (C := RX3) (T := TX3) (N := 3) hx hb hts hinX3 hown hK.1 hP 0 rfl rfl 1 (by decide) lkf19 (fun _ h9 => h9) rfl dX3_append_48 ?_
    refine lv_aload_n hx hb dX3_append_51 rfl (lv_at hl 0 rfl) ?_
    refine va_get (D := D) (ci := 3) (v := .ref (a0 1)) (C := RX3) (T := TX3) (N := 3) hx hb hts hinX3 hown hK.1 hP 0 rfl rfl 0 (by decide) lkf9 (fun _ h9 => h9) rfl dX3_append_52 ?_
    refine alen (v := (16 : Int32)) hx hb hK hP 1 rfl (by decide) dX3_append_55 ?_
    refine lv_icmp_ge (tgt := 79) hx hb dX3_append_56 (by decide) (fun hc => ?_) (fun hc => ?_)
    · have h := if_t hc h
      cases h
      exact hend _ _ _ _ hP hD hS dX3_append_79
    · have h := if_f hc h
      refine lv_aload_n hx hb dX3_append_59 rfl (lv_at hl 0 rfl) ?_
      refine va_get (D := D) (ci := 3) (v := .ref (a0 1)) (C := RX3) (T := TX3) (N := 3) hx hb hts hinX3 hown hK.1 hP 0 rfl rfl 0 (by decide) lkf9 (fun _ h9 => h9) rfl dX3_append_60 ?_
      refine lv_aload_n hx hb dX3_append_63 rfl (lv_at hl 0 rfl) ?_
      refine va_get (D := D) (ci := 3) (v := .int (o0.1 1)) (C := RX3) (T := TX3) (N := 3) hx hb hts hinX3 hown hK.1 hP 0 rfl rfl 1 (by decide) lkf19 (fun _ h9 => h9) rfl dX3_append_64 ?_
      refine lv_iload_n hx hb dX3_append_67 rfl (lv_at hl 1 rfl) ?_
      obtain ⟨hi1, h⟩ := gd_some h
      refine iast (j := (o0.1 1).toNatClampNeg) (wn := (wX3 cA a0 (sA o0 0 (o0.1 1).toNatClampNeg x1))) hx hb hK hP hD hS 1 rfl rfl (ck_in hi1) dX3_append_68 rfl (fun H locs hP hD hS => ?_)
      obtain ⟨s2, es2⟩ : ∃ z, z = sA o0 0 (o0.1 1).toNatClampNeg x1 := ⟨_, rfl⟩
      rw [← es2] at hP hD
      have h := nm_ap es2 h
      refine lv_aload_n hx hb dX3_append_69 rfl (lv_at hl 0 rfl) ?_
      refine lv_dup hx hb dX3_append_70 rfl ?_
      refine va_get (D := D) (ci := 3) (v := .int (s2.1 1)) (C := RX3) (T := TX3) (N := 3) hx hb hts hinX3 hown hK.1 hP 0 rfl rfl 1 (by decide) lkf19 (fun _ h9 => h9) rfl dX3_append_71 ?_
      refine lv_iconst (v := (1 : Int32)) hx hb dX3_append_74 (by decide) ?_
      refine lv_iadd hx hb dX3_append_75 ?_
      refine va_put (D := D) (ci := 3) (v := .int ((s2.1 1) + (1 : Int32))) (ty := .int) (C := RX3) (T := TX3) (N := 3) hx hb hts hinX3 tyX3 tyX3_ok nmX3 hown hK.1 hP hD hS 0 rfl rfl 1 (by decide) lkf19 (fun _ h9 => h9) rfl (by decide +kernel) rfl rfl (Nat.le_of_ble_eq_true rfl) dX3_append_76 (fun H locs hP hD hS => ?_)
      have hP : va_P D vwCl (wX3 cA a0 (sF s2 1 ((s2.1 1) + (1 : Int32)))) H := hP
      have hD : va_D A (wX3 cA a0 (sF s2 1 ((s2.1 1) + (1 : Int32)))) := hD
      obtain ⟨s3, es3⟩ : ∃ z, z = sF s2 1 ((s2.1 1) + (1 : Int32)) := ⟨_, rfl⟩
      rw [← es3] at hP hD
      have h := nm_ap es3 h
      cases h
      exact hend _ _ _ _ hP hD hS dX3_append_79
  refine lv_aload_n hx hb dX3_append_0 rfl (lv_at hl 0 rfl) ?_
  refine lv_dup hx hb dX3_append_1 rfl ?_
  refine va_get (D := D) (ci := 3) (v := .int (o0.1 2)) (C := RX3) (T := TX3) (N := 3) hx hb hts hinX3 hown hK.1 hP 0 rfl rfl 2 (by decide) lkf15 (fun _ h9 => h9) rfl dX3_append_2 ?_
  refine lv_iconst (v := (1 : Int32)) hx hb dX3_append_5 (by decide) ?_
  refine lv_iadd hx hb dX3_append_6 ?_
  refine va_put (D := D) (ci := 3) (v := .int ((o0.1 2) + (1 : Int32))) (ty := .int) (C := RX3) (T := TX3) (N := 3) hx hb hts hinX3 tyX3 tyX3_ok nmX3 hown hK.1 hP hD hS 0 rfl rfl 2 (by decide) lkf15 (fun _ h9 => h9) rfl (by decide +kernel) rfl rfl (Nat.le_of_ble_eq_true rfl) dX3_append_7 (fun H locs hP hD hS => ?_)
  have hP : va_P D vwCl (wX3 cA a0 (sF o0 2 ((o0.1 2) + (1 : Int32)))) H := hP
  have hD : va_D A (wX3 cA a0 (sF o0 2 ((o0.1 2) + (1 : Int32)))) := hD
  obtain ⟨s1, es1⟩ : ∃ z, z = sF o0 2 ((o0.1 2) + (1 : Int32)) := ⟨_, rfl⟩
  rw [← es1] at hP hD
  have h := nm_ap es1 h
  refine lv_aload_n hx hb dX3_append_10 rfl (lv_at hl 0 rfl) ?_
  refine va_get (D := D) (ci := 3) (v := .int (s1.1 1)) (C := RX3) (T := TX3) (N := 3) hx hb hts hinX3 hown hK.1 hP 0 rfl rfl 1 (by decide) lkf19 (fun _ h9 => h9) rfl dX3_append_11 ?_
  refine lv_if_le (tgt := 47) hx hb dX3_append_14 (by decide) (fun hc => ?_) (fun hc => ?_)
  · have h := if_t hc h
    exact JP0_47 x1 s1 _ _ hP hD hS ls (lv_sub hl [0, 1] rfl) h
  · have h := if_f hc h
    refine lv_aload_n hx hb dX3_append_17 rfl (lv_at hl 0 rfl) ?_
    refine lv_aload_n hx hb dX3_append_18 rfl (lv_at hl 0 rfl) ?_
    refine va_get (D := D) (ci := 3) (v := .int (s1.1 1)) (C := RX3) (T := TX3) (N := 3) hx hb hts hinX3 hown hK.1 hP 0 rfl rfl 1 (by decide) lkf19 (fun _ h9 => h9) rfl dX3_append_19 ?_
    refine lv_iconst (v := (1 : Int32)) hx hb dX3_append_22 (by decide) ?_
    refine lv_isub hx hb dX3_append_23 ?_
    obtain ⟨z2, hz2, h⟩ := bd_some h
    refine cR_V (As := [.int ((s1.1 1) - (1 : Int32))]) (rest := []) ⟨hx, hb, hml, hown, hts⟩ (c_X3_loosenedAt l D cA a0 s1 ((s1.1 1) - (1 : Int32)) z2 hz2) (cwV 1 hts gX3_append_X3_loosenedAt rfl rfl rfl hd_X3_loosenedAt ⟨(Nat.le_of_ble_eq_true rfl), (Nat.le_of_ble_eq_true rfl)⟩) (recvK hK hP 0 3 rfl rfl) hK hP [0, 1] rfl rfl hl.1 rfl (Nat.le_of_ble_eq_true rfl) dX3_append_24 ⟨(Nat.le_of_ble_eq_true rfl), (Nat.le_of_ble_eq_true rfl)⟩ ?_
    refine lv_iload_n hx hb dX3_append_27 rfl (lv_at hl 1 rfl) ?_
    obtain ⟨z3, hz3, h⟩ := bd_some h
    refine cR_S (As := [.int z2, .int x1]) (rest := []) ⟨hx, hb, hml, hown, hts⟩ (c_X3_isPair l D cA  z2 x1 z3 hz3) (va_cwS 2 hts gX3_append_X3_isPair rfl rfl rfl hd_X3_isPair.2 ⟨(Nat.le_of_ble_eq_true rfl), (Nat.le_of_ble_eq_true rfl)⟩) hK hP [] rfl rfl hl.1 rfl (Nat.le_of_ble_eq_true rfl) dX3_append_28 ⟨(Nat.le_of_ble_eq_true rfl), (Nat.le_of_ble_eq_true rfl)⟩ ?_
    refine lv_if_eq (tgt := 47) hx hb dX3_append_31 (by decide) (fun hc => ?_) (fun hc => ?_)
    · have h := if_t hc h
      exact JP0_47 x1 s1 _ _ hP hD hS ls (lv_sub hl [0, 1] rfl) h
    · have h := if_f hc h
      refine lv_aload_n hx hb dX3_append_34 rfl (lv_at hl 0 rfl) ?_
      refine lv_dup hx hb dX3_append_35 rfl ?_
      refine va_get (D := D) (ci := 3) (v := .int (s1.1 1)) (C := RX3) (T := TX3) (N := 3) hx hb hts hinX3 hown hK.1 hP 0 rfl rfl 1 (by decide) lkf19 (fun _ h9 => h9) rfl dX3_append_36 ?_
      refine lv_iconst (v := (1 : Int32)) hx hb dX3_append_39 (by decide) ?_
      refine lv_isub hx hb dX3_append_40 ?_
      refine va_put (D := D) (ci := 3) (v := .int ((s1.1 1) - (1 : Int32))) (ty := .int) (C := RX3) (T := TX3) (N := 3) hx hb hts hinX3 tyX3 tyX3_ok nmX3 hown hK.1 hP hD hS 0 rfl rfl 1 (by decide) lkf19 (fun _ h9 => h9) rfl (by decide +kernel) rfl rfl (Nat.le_of_ble_eq_true rfl) dX3_append_41 (fun H locs hP hD hS => ?_)
      have hP : va_P D vwCl (wX3 cA a0 (sF s1 1 ((s1.1 1) - (1 : Int32)))) H := hP
      have hD : va_D A (wX3 cA a0 (sF s1 1 ((s1.1 1) - (1 : Int32)))) := hD
      obtain ⟨s4, es4⟩ : ∃ z, z = sF s1 1 ((s1.1 1) - (1 : Int32)) := ⟨_, rfl⟩
      rw [← es4] at hP hD
      have h := nm_ap es4 h
      refine lv_goto (tgt := 79) hx hb dX3_append_44 (by decide) ?_
      cases h
      exact hend _ _ _ _ hP hD hS dX3_append_79
abbrev rmX3_isSameTurned : Room := ({ frames := 1, cells := 0, slots := 0, locals := 21 } : Room)
set_option maxHeartbeats 4000000 in
set_option maxRecDepth 100000 in
theorem c_X3_isSameTurned (l : Launch) (D : va_G) (cA : ClassId) (a0 : (Nat → Nat)) (o0 : Ob) (a1 : (Nat → Nat)) (o1 : Ob) (x2 : Int32) (x3 : Int32) (x4 : Int32) (r : Int32) (h : f_X3_isSameTurned o0 o1 x2 x3 x4 = some r) : ConR l yX3_isSameTurned wsX3_isSameTurned rmX3_isSameTurned D cA [.ref (a0 0), .ref (a1 0), .int x2, .int x3, .int x4] (wX3 cA a0 o0 ++ wX3 cA a1 o1) r := by
  refine ConZ.enter (cc := cX3_isSameTurned) (maxL := 8) (by decide) rfl (Nat.le_of_ble_eq_true rfl) ?_
  intro p e s m args below meth c Q hx hb hml hown hts hK hP  hend ls hl
  have hl : lv_has ls 8 [(0, .ref (a0 0)), (1, .ref (a1 0)), (2, .int x2), (3, .int x3), (4, .int x4)] := hl
  unfold f_X3_isSameTurned at h
  have lkf19 := hts (.fieldLink RX3 19 "TiedToTown$Rope" "left" "I") (List.mem_of_getElem? (i := 1) rfl)
  have hinX3 : ∀ w ∈ wsX30, w ∈ wsX3_isSameTurned := fun w h => List.mem_cons_of_mem _ (List.mem_append_right _ h)
  have LP13 : ∀ (x2 : Int32) (x3 : Int32) (x4 : Int32) (x5 : Int32) (n : Nat) (x6 : Int32) (ls : Array Slot) (_ : lv_has ls 8 [(0, .ref (a0 0)), (1, .ref (a1 0)), (2, .int x2), (3, .int x3), (4, .int x4), (5, .int x5), (6, .int x6)]) (res : Nat) (_ : L_X3_isSameTurned_13 x2 x3 x4 x5 o0 o1 n x6 = some res) (_ : (∀ (ls : Array Slot), lv_has ls 8 [] → res = 0 → W p l e rmX3_isSameTurned s m args below meth c s.heap [] 0 0 Q (F0 m 67 ls []))) (_ : (∀ (ls : Array Slot), lv_has ls 8 [] → res = 1 → W p l e rmX3_isSameTurned s m args below meth c s.heap [] 0 0 Q (F0 m 75 ls []))), W p l e rmX3_isSameTurned s m args below meth c s.heap [] 0 0 Q (F0 m 13 ls []) := by
    intro x2 x3 x4 x5 n
    induction n with
    | zero =>
      intro x6 ls hl res h K0 K1
      exact absurd h (fun q : (none : Option (Nat)) = some res => by cases q)
    | succ n ih =>
      intro x6 ls hl res h K0 K1
      have h : L_X3_isSameTurned_13_step x2 x3 x4 x5 o0 o1 (L_X3_isSameTurned_13 x2 x3 x4 x5 o0 o1 n) x6 = some res := h
      unfold L_X3_isSameTurned_13_step at h
      have JP13_46 : ∀ (k0 : Int32) (x6 : Int32) (ls : Array Slot) (_ : lv_has ls 8 [(0, .ref (a0 0)), (1, .ref (a1 0)), (2, .int x2), (3, .int x3), (4, .int x4), (5, .int x5), (6, .int x6)]) (_ : J_X3_isSameTurned_46l13 (L_X3_isSameTurned_13 x2 x3 x4 x5 o0 o1 n) k0 x2 x3 x4 x5 x6 o0 o1 = some res), W p l e rmX3_isSameTurned s m args below meth c s.heap [] 0 0 Q (F0 m 46 ls [.int k0]) := by
        intro k0 x6 ls hl h
        unfold J_X3_isSameTurned_46l13 at h
        refine lv_istore (lv' := [(7, .int k0), (0, .ref (a0 0)), (1, .ref (a1 0)), (2, .int x2), (3, .int x3), (4, .int x4), (5, .int x5), (6, .int x6)]) hx hb dX3_isSameTurned_46 hl (by decide) rfl (fun ls hl => ?_)
        refine lv_aload_n hx hb dX3_isSameTurned_48 rfl (lv_at hl 1 rfl) ?_
        refine lv_iload_n hx hb dX3_isSameTurned_49 rfl (lv_at hl 3 rfl) ?_
        refine lv_iload hx hb dX3_isSameTurned_50 (lv_at hl 0 rfl) ?_
        refine lv_iadd hx hb dX3_isSameTurned_52 ?_
        obtain ⟨z1, hz1, h⟩ := bd_some h
        refine cR_V (As := [.int (x2 + k0)]) (rest := []) ⟨hx, hb, hml, hown, hts⟩ (c_X3_loosenedAt l D cA a0 o0 (x2 + k0) z1 hz1) (cwV 1 hts gX3_isSameTurned_X3_loosenedAt rfl rfl rfl hd_X3_loosenedAt ⟨(Nat.le_of_ble_eq_true rfl), (Nat.le_of_ble_eq_true rfl)⟩) (recvK hK hP 0 3 rfl rfl) hK hP [0, 1] rfl rfl hl.1 rfl (Nat.le_of_ble_eq_true rfl) dX3_isSameTurned_53 ⟨(Nat.le_of_ble_eq_true rfl), (Nat.le_of_ble_eq_true rfl)⟩ ?_
        refine lv_aload_n hx hb dX3_isSameTurned_56 rfl (lv_at hl 2 rfl) ?_
        refine lv_iload_n hx hb dX3_isSameTurned_57 rfl (lv_at hl 4 rfl) ?_
        refine lv_iload hx hb dX3_isSameTurned_58 (lv_at hl 7 rfl) ?_
        refine lv_iadd hx hb dX3_isSameTurned_60 ?_
        obtain ⟨z2, hz2, h⟩ := bd_some h
        refine cR_V (As := [.int (x3 + x6)]) (rest := [.int z1]) ⟨hx, hb, hml, hown, hts⟩ (c_X3_loosenedAt l D cA a1 o1 (x3 + x6) z2 hz2) (cwV 1 hts gX3_isSameTurned_X3_loosenedAt rfl rfl rfl hd_X3_loosenedAt ⟨(Nat.le_of_ble_eq_true rfl), (Nat.le_of_ble_eq_true rfl)⟩) (recvK hK hP 2 3 rfl rfl) hK hP [2, 3] rfl rfl hl.1 rfl (Nat.le_of_ble_eq_true rfl) dX3_isSameTurned_61 ⟨(Nat.le_of_ble_eq_true rfl), (Nat.le_of_ble_eq_true rfl)⟩ ?_
        refine lv_icmp_eq (tgt := 69) hx hb dX3_isSameTurned_64 (by decide) (fun hc => ?_) (fun hc => ?_)
        · have h := if_t hc h
          obtain ⟨v3, ev3⟩ : ∃ y : Int32, y = x6 + (1 : Int32) := ⟨_, rfl⟩
          refine lv_iinc (v := v3) (lv' := [(6, .int v3), (7, .int k0), (0, .ref (a0 0)), (1, .ref (a1 0)), (2, .int x2), (3, .int x3), (4, .int x4), (5, .int x5)]) hx hb dX3_isSameTurned_69 hl (k := 7) rfl (by rw [ev3]; rfl) (by decide) rfl (fun ls hl => ?_)
          have h := nm_ap ev3 h
          refine lv_goto (tgt := 13) hx hb dX3_isSameTurned_72 (by decide) ?_
          exact ih v3 ls (lv_sub hl [2, 3, 4, 5, 6, 7, 0] rfl) _ h K0 K1
        · have h := if_f hc h
          cases h
          exact K0 _ (lv_sub hl [] rfl) rfl
      refine lv_iload hx hb dX3_isSameTurned_13 (lv_at hl 6 rfl) ?_
      refine lv_iload hx hb dX3_isSameTurned_15 (lv_at hl 5 rfl) ?_
      refine lv_icmp_ge (tgt := 75) hx hb dX3_isSameTurned_17 (by decide) (fun hc => ?_) (fun hc => ?_)
      · have h := if_t hc h
        cases h
        exact K1 _ (lv_sub hl [] rfl) rfl
      · have h := if_f hc h
        refine lv_iload hx hb dX3_isSameTurned_20 (lv_at hl 6 rfl) ?_
        refine lv_iload hx hb dX3_isSameTurned_22 (lv_at hl 4 rfl) ?_
        refine lv_iadd hx hb dX3_isSameTurned_24 ?_
        refine lv_iload hx hb dX3_isSameTurned_25 (lv_at hl 5 rfl) ?_
        refine lv_icmp_ge (tgt := 38) hx hb dX3_isSameTurned_27 (by decide) (fun hc => ?_) (fun hc => ?_)
        · have h := if_t hc h
          refine lv_iload hx hb dX3_isSameTurned_38 (lv_at hl 6 rfl) ?_
          refine lv_iload hx hb dX3_isSameTurned_40 (lv_at hl 4 rfl) ?_
          refine lv_iadd hx hb dX3_isSameTurned_42 ?_
          refine lv_iload hx hb dX3_isSameTurned_43 (lv_at hl 5 rfl) ?_
          refine lv_isub hx hb dX3_isSameTurned_45 ?_
          exact JP13_46 ((x6 + x4) - x5) x6 ls (lv_sub hl [0, 1, 2, 3, 4, 5, 6] rfl) h
        · have h := if_f hc h
          refine lv_iload hx hb dX3_isSameTurned_30 (lv_at hl 6 rfl) ?_
          refine lv_iload hx hb dX3_isSameTurned_32 (lv_at hl 4 rfl) ?_
          refine lv_iadd hx hb dX3_isSameTurned_34 ?_
          refine lv_goto (tgt := 46) hx hb dX3_isSameTurned_35 (by decide) ?_
          exact JP13_46 (x6 + x4) x6 ls (lv_sub hl [0, 1, 2, 3, 4, 5, 6] rfl) h
  refine lv_aload_n hx hb dX3_isSameTurned_0 rfl (lv_at hl 0 rfl) ?_
  refine va_get (D := D) (ci := 3) (v := .int (o0.1 1)) (C := RX3) (T := TX3) (N := 3) hx hb hts hinX3 hown hK.1 hP 0 rfl rfl 1 (by decide) lkf19 (fun _ h9 => h9) rfl dX3_isSameTurned_1 ?_
  refine lv_iconst (v := (2 : Int32)) hx hb dX3_isSameTurned_4 (by decide) ?_
  refine lv_iload_n hx hb dX3_isSameTurned_5 rfl (lv_at hl 2 rfl) ?_
  refine lv_imul hx hb dX3_isSameTurned_6 ?_
  refine lv_isub hx hb dX3_isSameTurned_7 ?_
  refine lv_topi (fun v1 ev1 => ?_)
  have h := nm_ap ev1 h
  refine lv_istore (lv' := [(5, .int v1), (0, .ref (a0 0)), (1, .ref (a1 0)), (2, .int x2), (3, .int x3), (4, .int x4)]) hx hb dX3_isSameTurned_8 hl (by decide) rfl (fun ls hl => ?_)
  refine lv_iconst (v := (0 : Int32)) hx hb dX3_isSameTurned_10 (by decide) ?_
  refine lv_istore (lv' := [(6, .int (0 : Int32)), (5, .int v1), (0, .ref (a0 0)), (1, .ref (a1 0)), (2, .int x2), (3, .int x3), (4, .int x4)]) hx hb dX3_isSameTurned_11 hl (by decide) rfl (fun ls hl => ?_)
  obtain ⟨z2, hz2, h⟩ := bd_some h
  refine LP13 x2 x3 x4 v1 512 (0 : Int32) ls (lv_sub hl [2, 3, 4, 5, 6, 1, 0] rfl) _ hz2 ?_ ?_
  · intro ls hl hi
    have h := if_t hi h
    refine lv_iconst (v := (0 : Int32)) hx hb dX3_isSameTurned_67 (by decide) ?_
    cases h
    exact hend _ _ (by decide) dX3_isSameTurned_68
  · intro ls hl hi
    have h := if_f (by rw [hi]; decide) h
    refine lv_iconst (v := (1 : Int32)) hx hb dX3_isSameTurned_75 (by decide) ?_
    cases h
    exact hend _ _ (by decide) dX3_isSameTurned_76
abbrev rmX3_isSame : Room := ({ frames := 2, cells := 0, slots := 0, locals := 48 } : Room)
set_option maxHeartbeats 4000000 in
set_option maxRecDepth 100000 in
theorem c_X3_isSame (l : Launch) (D : va_G) (cA : ClassId) (a0 : (Nat → Nat)) (o0 : Ob) (a1 : (Nat → Nat)) (o1 : Ob) (r : Int32) (h : f_X3_isSame o0 o1 = some r) : ConR l yX3_isSame wsX3_isSame rmX3_isSame D cA [.ref (a0 0), .ref (a1 0)] (wX3 cA a0 o0 ++ wX3 cA a1 o1) r := by
  refine ConZ.enter (cc := cX3_isSame) (maxL := 2) (by decide) rfl (Nat.le_of_ble_eq_true rfl) ?_
  intro p e s m args below meth c Q hx hb hml hown hts hK hP  hend ls hl
  have hl : lv_has ls 2 [(0, .ref (a0 0)), (1, .ref (a1 0))] := hl
  unfold f_X3_isSame at h
  have lkf19 := hts (.fieldLink RX3 19 "TiedToTown$Rope" "left" "I") (List.mem_of_getElem? (i := 1) rfl)
  have hinX3 : ∀ w ∈ wsX30, w ∈ wsX3_isSame := fun w h => List.mem_cons_of_mem _ (List.mem_append_right _ h)
  refine lv_aload_n hx hb dX3_isSame_0 rfl (lv_at hl 0 rfl) ?_
  refine va_get (D := D) (ci := 3) (v := .int (o0.1 1)) (C := RX3) (T := TX3) (N := 3) hx hb hts hinX3 hown hK.1 hP 0 rfl rfl 1 (by decide) lkf19 (fun _ h9 => h9) rfl dX3_isSame_1 ?_
  refine lv_aload_n hx hb dX3_isSame_4 rfl (lv_at hl 1 rfl) ?_
  refine va_get (D := D) (ci := 3) (v := .int (o1.1 1)) (C := RX3) (T := TX3) (N := 3) hx hb hts hinX3 hown hK.1 hP 2 rfl rfl 1 (by decide) lkf19 (fun _ h9 => h9) rfl dX3_isSame_5 ?_
  refine lv_icmp_ne (tgt := 26) hx hb dX3_isSame_8 (by decide) (fun hc => ?_) (fun hc => ?_)
  · have h := if_f hc h
    refine lv_iconst (v := (0 : Int32)) hx hb dX3_isSame_26 (by decide) ?_
    cases h
    exact hend _ _ (by decide) dX3_isSame_27
  · have h := if_t hc h
    refine lv_aload_n hx hb dX3_isSame_11 rfl (lv_at hl 0 rfl) ?_
    refine lv_aload_n hx hb dX3_isSame_12 rfl (lv_at hl 1 rfl) ?_
    refine lv_iconst (v := (0 : Int32)) hx hb dX3_isSame_13 (by decide) ?_
    refine lv_iconst (v := (0 : Int32)) hx hb dX3_isSame_14 (by decide) ?_
    refine lv_iconst (v := (0 : Int32)) hx hb dX3_isSame_15 (by decide) ?_
    obtain ⟨z1, hz1, h⟩ := bd_some h
    refine cR_V (As := [.ref (a1 0), .int (0 : Int32), .int (0 : Int32), .int (0 : Int32)]) (rest := []) ⟨hx, hb, hml, hown, hts⟩ (c_X3_isSameTurned l D cA a0 o0 a1 o1 (0 : Int32) (0 : Int32) (0 : Int32) z1 hz1) (cwV 4 hts gX3_isSame_X3_isSameTurned rfl rfl rfl hd_X3_isSameTurned ⟨(Nat.le_of_ble_eq_true rfl), (Nat.le_of_ble_eq_true rfl)⟩) (recvK hK hP 0 3 rfl rfl) hK hP [0, 1, 2, 3] rfl rfl hl.1 rfl (Nat.le_of_ble_eq_true rfl) dX3_isSame_16 ⟨(Nat.le_of_ble_eq_true rfl), (Nat.le_of_ble_eq_true rfl)⟩ ?_
    refine lv_if_eq (tgt := 26) hx hb dX3_isSame_19 (by decide) (fun hc => ?_) (fun hc => ?_)
    · have h := if_t hc h
      refine lv_iconst (v := (0 : Int32)) hx hb dX3_isSame_26 (by decide) ?_
      cases h
      exact hend _ _ (by decide) dX3_isSame_27
    · have h := if_f hc h
      refine lv_iconst (v := (1 : Int32)) hx hb dX3_isSame_22 (by decide) ?_
      refine lv_goto (tgt := 27) hx hb dX3_isSame_23 (by decide) ?_
      cases h
      exact hend _ _ (by decide) dX3_isSame_27
abbrev rmX3_endPairs : Room := ({ frames := 1, cells := 0, slots := 0, locals := 21 } : Room)
set_option maxHeartbeats 4000000 in
set_option maxRecDepth 100000 in
theorem c_X3_endPairs (l : Launch) (D : va_G) (cA : ClassId) (a0 : (Nat → Nat)) (o0 : Ob) (r : Int32) (h : f_X3_endPairs o0 = some r) : ConR l yX3_endPairs wsX3_endPairs rmX3_endPairs D cA [.ref (a0 0)] (wX3 cA a0 o0) r := by
  refine ConR.enter (cc := cX3_endPairs) (maxL := 2) (by decide) rfl (Nat.le_of_ble_eq_true rfl) ?_
  intro p e s m args below meth c Q hx hb hml hown hts hK hP  hend ls hl
  have hl : lv_has ls 2 [(0, .ref (a0 0))] := hl
  unfold f_X3_endPairs at h
  have lkf19 := hts (.fieldLink RX3 19 "TiedToTown$Rope" "left" "I") (List.mem_of_getElem? (i := 1) rfl)
  have hinX3 : ∀ w ∈ wsX30, w ∈ wsX3_endPairs := fun w h => List.mem_cons_of_mem _ (List.mem_append_right _ h)
  have LP2 : ∀ (n : Nat) (x1 : Int32) (ls : Array Slot) (_ : lv_has ls 2 [(0, .ref (a0 0)), (1, .int x1)]) (res : Int32) (_ : L_X3_endPairs_2 o0 n x1 = some res) (_ : (∀ (ls : Array Slot), lv_has ls 2 [(1, .int res)] → W p l e rmX3_endPairs s m args below meth c s.heap [] 0 0 Q (F0 m 43 ls []))), W p l e rmX3_endPairs s m args below meth c s.heap [] 0 0 Q (F0 m 2 ls []) := by
    intro n
    induction n with
    | zero =>
      intro x1 ls hl res h K0
      exact absurd h (fun q : (none : Option (Int32)) = some res => by cases q)
    | succ n ih =>
      intro x1 ls hl res h K0
      have h : L_X3_endPairs_2_step o0 (L_X3_endPairs_2 o0 n) x1 = some res := h
      unfold L_X3_endPairs_2_step at h
      refine lv_aload_n hx hb dX3_endPairs_2 rfl (lv_at hl 0 rfl) ?_
      refine va_get (D := D) (ci := 3) (v := .int (o0.1 1)) (C := RX3) (T := TX3) (N := 3) hx hb hts hinX3 hown hK.1 hP 0 rfl rfl 1 (by decide) lkf19 (fun _ h9 => h9) rfl dX3_endPairs_3 ?_
      refine lv_iconst (v := (2 : Int32)) hx hb dX3_endPairs_6 (by decide) ?_
      refine lv_iload_n hx hb dX3_endPairs_7 rfl (lv_at hl 1 rfl) ?_
      refine lv_imul hx hb dX3_endPairs_8 ?_
      refine lv_isub hx hb dX3_endPairs_9 ?_
      refine lv_iconst (v := (2 : Int32)) hx hb dX3_endPairs_10 (by decide) ?_
      refine lv_icmp_lt (tgt := 43) hx hb dX3_endPairs_11 (by decide) (fun hc => ?_) (fun hc => ?_)
      · have h := if_t hc h
        cases h
        exact K0 _ (lv_sub hl [1] rfl)
      · have h := if_f hc h
        refine lv_aload_n hx hb dX3_endPairs_14 rfl (lv_at hl 0 rfl) ?_
        refine lv_iload_n hx hb dX3_endPairs_15 rfl (lv_at hl 1 rfl) ?_
        obtain ⟨z1, hz1, h⟩ := bd_some h
        refine cR_V (As := [.int x1]) (rest := []) ⟨hx, hb, hml, hown, hts⟩ (c_X3_loosenedAt l D cA a0 o0 x1 z1 hz1) (cwV 1 hts gX3_endPairs_X3_loosenedAt rfl rfl rfl hd_X3_loosenedAt ⟨(Nat.le_of_ble_eq_true rfl), (Nat.le_of_ble_eq_true rfl)⟩) (recvK hK hP 0 3 rfl rfl) hK hP [0, 1] rfl rfl hl.1 rfl (Nat.le_of_ble_eq_true rfl) dX3_endPairs_16 ⟨(Nat.le_of_ble_eq_true rfl), (Nat.le_of_ble_eq_true rfl)⟩ ?_
        refine lv_aload_n hx hb dX3_endPairs_19 rfl (lv_at hl 0 rfl) ?_
        refine lv_aload_n hx hb dX3_endPairs_20 rfl (lv_at hl 0 rfl) ?_
        refine va_get (D := D) (ci := 3) (v := .int (o0.1 1)) (C := RX3) (T := TX3) (N := 3) hx hb hts hinX3 hown hK.1 hP 0 rfl rfl 1 (by decide) lkf19 (fun _ h9 => h9) rfl dX3_endPairs_21 ?_
        refine lv_iconst (v := (1 : Int32)) hx hb dX3_endPairs_24 (by decide) ?_
        refine lv_isub hx hb dX3_endPairs_25 ?_
        refine lv_iload_n hx hb dX3_endPairs_26 rfl (lv_at hl 1 rfl) ?_
        refine lv_isub hx hb dX3_endPairs_27 ?_
        obtain ⟨z2, hz2, h⟩ := bd_some h
        refine cR_V (As := [.int (((o0.1 1) - (1 : Int32)) - x1)]) (rest := [.int z1]) ⟨hx, hb, hml, hown, hts⟩ (c_X3_loosenedAt l D cA a0 o0 (((o0.1 1) - (1 : Int32)) - x1) z2 hz2) (cwV 1 hts gX3_endPairs_X3_loosenedAt rfl rfl rfl hd_X3_loosenedAt ⟨(Nat.le_of_ble_eq_true rfl), (Nat.le_of_ble_eq_true rfl)⟩) (recvK hK hP 0 3 rfl rfl) hK hP [0, 1] rfl rfl hl.1 rfl (Nat.le_of_ble_eq_true rfl) dX3_endPairs_28 ⟨(Nat.le_of_ble_eq_true rfl), (Nat.le_of_ble_eq_true rfl)⟩ ?_
        obtain ⟨z3, hz3, h⟩ := bd_some h
        refine cR_S (As := [.int z1, .int z2]) (rest := []) ⟨hx, hb, hml, hown, hts⟩ (c_X3_isPair l D cA  z1 z2 z3 hz3) (va_cwS 2 hts gX3_endPairs_X3_isPair rfl rfl rfl hd_X3_isPair.2 ⟨(Nat.le_of_ble_eq_true rfl), (Nat.le_of_ble_eq_true rfl)⟩) hK hP [] rfl rfl hl.1 rfl (Nat.le_of_ble_eq_true rfl) dX3_endPairs_31 ⟨(Nat.le_of_ble_eq_true rfl), (Nat.le_of_ble_eq_true rfl)⟩ ?_
        refine lv_if_eq (tgt := 43) hx hb dX3_endPairs_34 (by decide) (fun hc => ?_) (fun hc => ?_)
        · have h := if_t hc h
          cases h
          exact K0 _ (lv_sub hl [1] rfl)
        · have h := if_f hc h
          obtain ⟨v4, ev4⟩ : ∃ y : Int32, y = x1 + (1 : Int32) := ⟨_, rfl⟩
          refine lv_iinc (v := v4) (lv' := [(1, .int v4), (0, .ref (a0 0))]) hx hb dX3_endPairs_37 hl (k := 1) rfl (by rw [ev4]; rfl) (by decide) rfl (fun ls hl => ?_)
          have h := nm_ap ev4 h
          refine lv_goto (tgt := 2) hx hb dX3_endPairs_40 (by decide) ?_
          exact ih v4 ls (lv_sub hl [1, 0] rfl) _ h K0
  refine lv_iconst (v := (0 : Int32)) hx hb dX3_endPairs_0 (by decide) ?_
  refine lv_istore_n (lv' := [(1, .int (0 : Int32)), (0, .ref (a0 0))]) hx hb dX3_endPairs_1 rfl hl (by decide) rfl (fun ls hl => ?_)
  obtain ⟨z1, hz1, h⟩ := bd_some h
  refine LP2 512 (0 : Int32) ls (lv_sub hl [1, 0] rfl) _ hz1 ?_
  · intro ls hl
    refine lv_iload_n hx hb dX3_endPairs_43 rfl (lv_at hl 0 rfl) ?_
    cases h
    exact hend _ _ dX3_endPairs_44
abbrev rmX3_isTurned : Room := ({ frames := 2, cells := 0, slots := 0, locals := 48 } : Room)
set_option maxHeartbeats 4000000 in
set_option maxRecDepth 100000 in
theorem c_X3_isTurned (l : Launch) (D : va_G) (cA : ClassId) (a0 : (Nat → Nat)) (o0 : Ob) (a1 : (Nat → Nat)) (o1 : Ob) (r : Int32) (h : f_X3_isTurned o0 o1 = some r) : ConR l yX3_isTurned wsX3_isTurned rmX3_isTurned D cA [.ref (a0 0), .ref (a1 0)] (wX3 cA a0 o0 ++ wX3 cA a1 o1) r := by
  refine ConZ.enter (cc := cX3_isTurned) (maxL := 6) (by decide) rfl (Nat.le_of_ble_eq_true rfl) ?_
  intro p e s m args below meth c Q hx hb hml hown hts hK hP  hend ls hl
  have hl : lv_has ls 6 [(0, .ref (a0 0)), (1, .ref (a1 0))] := hl
  unfold f_X3_isTurned at h
  have lkf19 := hts (.fieldLink RX3 19 "TiedToTown$Rope" "left" "I") (List.mem_of_getElem? (i := 1) rfl)
  have hinX3 : ∀ w ∈ wsX30, w ∈ wsX3_isTurned := fun w h => List.mem_cons_of_mem _ (List.mem_append_right _ h)
  have LP38 : ∀ (x2 : Int32) (x3 : Int32) (x4 : Int32) (n : Nat) (x5 : Int32) (ls : Array Slot) (_ : lv_has ls 6 [(0, .ref (a0 0)), (1, .ref (a1 0)), (2, .int x2), (3, .int x3), (4, .int x4), (5, .int x5)]) (res : Nat) (_ : L_X3_isTurned_38 x2 x3 x4 o0 o1 n x5 = some res) (_ : (∀ (ls : Array Slot), lv_has ls 6 [] → res = 0 → W p l e rmX3_isTurned s m args below meth c s.heap [] 0 0 Q (F0 m 57 ls []))) (_ : (∀ (ls : Array Slot), lv_has ls 6 [] → res = 1 → W p l e rmX3_isTurned s m args below meth c s.heap [] 0 0 Q (F0 m 65 ls []))), W p l e rmX3_isTurned s m args below meth c s.heap [] 0 0 Q (F0 m 38 ls []) := by
    intro x2 x3 x4 n
    induction n with
    | zero =>
      intro x5 ls hl res h K0 K1
      exact absurd h (fun q : (none : Option (Nat)) = some res => by cases q)
    | succ n ih =>
      intro x5 ls hl res h K0 K1
      have h : L_X3_isTurned_38_step x2 x3 x4 o0 o1 (L_X3_isTurned_38 x2 x3 x4 o0 o1 n) x5 = some res := h
      unfold L_X3_isTurned_38_step at h
      refine lv_iload hx hb dX3_isTurned_38 (lv_at hl 5 rfl) ?_
      refine lv_iload hx hb dX3_isTurned_40 (lv_at hl 4 rfl) ?_
      refine lv_icmp_ge (tgt := 65) hx hb dX3_isTurned_42 (by decide) (fun hc => ?_) (fun hc => ?_)
      · have h := if_t hc h
        cases h
        exact K1 _ (lv_sub hl [] rfl) rfl
      · have h := if_f hc h
        refine lv_aload_n hx hb dX3_isTurned_45 rfl (lv_at hl 0 rfl) ?_
        refine lv_aload_n hx hb dX3_isTurned_46 rfl (lv_at hl 1 rfl) ?_
        refine lv_iload_n hx hb dX3_isTurned_47 rfl (lv_at hl 2 rfl) ?_
        refine lv_iload_n hx hb dX3_isTurned_48 rfl (lv_at hl 3 rfl) ?_
        refine lv_iload hx hb dX3_isTurned_49 (lv_at hl 5 rfl) ?_
        obtain ⟨z1, hz1, h⟩ := bd_some h
        refine cR_V (As := [.ref (a1 0), .int x2, .int x3, .int x5]) (rest := []) ⟨hx, hb, hml, hown, hts⟩ (c_X3_isSameTurned l D cA a0 o0 a1 o1 x2 x3 x5 z1 hz1) (cwV 4 hts gX3_isTurned_X3_isSameTurned rfl rfl rfl hd_X3_isSameTurned ⟨(Nat.le_of_ble_eq_true rfl), (Nat.le_of_ble_eq_true rfl)⟩) (recvK hK hP 0 3 rfl rfl) hK hP [0, 1, 2, 3] rfl rfl hl.1 rfl (Nat.le_of_ble_eq_true rfl) dX3_isTurned_51 ⟨(Nat.le_of_ble_eq_true rfl), (Nat.le_of_ble_eq_true rfl)⟩ ?_
        refine lv_if_eq (tgt := 59) hx hb dX3_isTurned_54 (by decide) (fun hc => ?_) (fun hc => ?_)
        · have h := if_t hc h
          obtain ⟨v2, ev2⟩ : ∃ y : Int32, y = x5 + (1 : Int32) := ⟨_, rfl⟩
          refine lv_iinc (v := v2) (lv' := [(5, .int v2), (0, .ref (a0 0)), (1, .ref (a1 0)), (2, .int x2), (3, .int x3), (4, .int x4)]) hx hb dX3_isTurned_59 hl (k := 5) rfl (by rw [ev2]; rfl) (by decide) rfl (fun ls hl => ?_)
          have h := nm_ap ev2 h
          refine lv_goto (tgt := 38) hx hb dX3_isTurned_62 (by decide) ?_
          exact ih v2 ls (lv_sub hl [1, 2, 3, 4, 5, 0] rfl) _ h K0 K1
        · have h := if_f hc h
          cases h
          exact K0 _ (lv_sub hl [] rfl) rfl
  refine lv_aload_n hx hb dX3_isTurned_0 rfl (lv_at hl 0 rfl) ?_
  obtain ⟨z1, hz1, h⟩ := bd_some h
  refine cR_V (As := []) (rest := []) ⟨hx, hb, hml, hown, hts⟩ (c_X3_endPairs l D cA a0 o0  z1 hz1) (cwV 0 hts gX3_isTurned_X3_endPairs rfl rfl rfl hd_X3_endPairs ⟨(Nat.le_of_ble_eq_true rfl), (Nat.le_of_ble_eq_true rfl)⟩) (recvK hK hP 0 3 rfl rfl) hK hP [0, 1] rfl rfl hl.1 rfl (Nat.le_of_ble_eq_true rfl) dX3_isTurned_1 ⟨(Nat.le_of_ble_eq_true rfl), (Nat.le_of_ble_eq_true rfl)⟩ ?_
  refine lv_istore_n (lv' := [(2, .int z1), (0, .ref (a0 0)), (1, .ref (a1 0))]) hx hb dX3_isTurned_4 rfl hl (by decide) rfl (fun ls hl => ?_)
  refine lv_aload_n hx hb dX3_isTurned_5 rfl (lv_at hl 2 rfl) ?_
  obtain ⟨z2, hz2, h⟩ := bd_some h
  refine cR_V (As := []) (rest := []) ⟨hx, hb, hml, hown, hts⟩ (c_X3_endPairs l D cA a1 o1  z2 hz2) (cwV 0 hts gX3_isTurned_X3_endPairs rfl rfl rfl hd_X3_endPairs ⟨(Nat.le_of_ble_eq_true rfl), (Nat.le_of_ble_eq_true rfl)⟩) (recvK hK hP 2 3 rfl rfl) hK hP [2, 3] rfl rfl hl.1 rfl (Nat.le_of_ble_eq_true rfl) dX3_isTurned_6 ⟨(Nat.le_of_ble_eq_true rfl), (Nat.le_of_ble_eq_true rfl)⟩ ?_
  refine lv_istore_n (lv' := [(3, .int z2), (2, .int z1), (0, .ref (a0 0)), (1, .ref (a1 0))]) hx hb dX3_isTurned_9 rfl hl (by decide) rfl (fun ls hl => ?_)
  refine lv_aload_n hx hb dX3_isTurned_10 rfl (lv_at hl 2 rfl) ?_
  refine va_get (D := D) (ci := 3) (v := .int (o0.1 1)) (C := RX3) (T := TX3) (N := 3) hx hb hts hinX3 hown hK.1 hP 0 rfl rfl 1 (by decide) lkf19 (fun _ h9 => h9) rfl dX3_isTurned_11 ?_
  refine lv_iconst (v := (2 : Int32)) hx hb dX3_isTurned_14 (by decide) ?_
  refine lv_iload_n hx hb dX3_isTurned_15 rfl (lv_at hl 1 rfl) ?_
  refine lv_imul hx hb dX3_isTurned_16 ?_
  refine lv_isub hx hb dX3_isTurned_17 ?_
  refine lv_topi (fun v3 ev3 => ?_)
  have h := nm_ap ev3 h
  refine lv_istore (lv' := [(4, .int v3), (3, .int z2), (2, .int z1), (0, .ref (a0 0)), (1, .ref (a1 0))]) hx hb dX3_isTurned_18 hl (by decide) rfl (fun ls hl => ?_)
  refine lv_iload hx hb dX3_isTurned_20 (lv_at hl 0 rfl) ?_
  refine lv_aload_n hx hb dX3_isTurned_22 rfl (lv_at hl 4 rfl) ?_
  refine va_get (D := D) (ci := 3) (v := .int (o1.1 1)) (C := RX3) (T := TX3) (N := 3) hx hb hts hinX3 hown hK.1 hP 2 rfl rfl 1 (by decide) lkf19 (fun _ h9 => h9) rfl dX3_isTurned_23 ?_
  refine lv_iconst (v := (2 : Int32)) hx hb dX3_isTurned_26 (by decide) ?_
  refine lv_iload_n hx hb dX3_isTurned_27 rfl (lv_at hl 1 rfl) ?_
  refine lv_imul hx hb dX3_isTurned_28 ?_
  refine lv_isub hx hb dX3_isTurned_29 ?_
  refine lv_icmp_eq (tgt := 35) hx hb dX3_isTurned_30 (by decide) (fun hc => ?_) (fun hc => ?_)
  · have h := if_t hc h
    refine lv_iconst (v := (0 : Int32)) hx hb dX3_isTurned_35 (by decide) ?_
    refine lv_istore (lv' := [(5, .int (0 : Int32)), (4, .int v3), (3, .int z2), (2, .int z1), (0, .ref (a0 0)), (1, .ref (a1 0))]) hx hb dX3_isTurned_36 hl (by decide) rfl (fun ls hl => ?_)
    obtain ⟨z4, hz4, h⟩ := bd_some h
    refine LP38 z1 z2 v3 512 (0 : Int32) ls (lv_sub hl [4, 5, 3, 2, 1, 0] rfl) _ hz4 ?_ ?_
    · intro ls hl hi
      have h := if_t hi h
      refine lv_iconst (v := (1 : Int32)) hx hb dX3_isTurned_57 (by decide) ?_
      cases h
      exact hend _ _ (by decide) dX3_isTurned_58
    · intro ls hl hi
      have h := if_f (by rw [hi]; decide) h
      refine lv_iconst (v := (0 : Int32)) hx hb dX3_isTurned_65 (by decide) ?_
      cases h
      exact hend _ _ (by decide) dX3_isTurned_66
  · have h := if_f hc h
    refine lv_iconst (v := (0 : Int32)) hx hb dX3_isTurned_33 (by decide) ?_
    cases h
    exact hend _ _ (by decide) dX3_isTurned_34
abbrev rmX3_markOf : Room := ({ frames := 1, cells := 0, slots := 0, locals := 21 } : Room)
set_option maxHeartbeats 4000000 in
set_option maxRecDepth 100000 in
theorem c_X3_markOf (l : Launch) (D : va_G) (cA : ClassId) (a0 : (Nat → Nat)) (o0 : Ob) (x1 : Int32) (r : Int32) (h : f_X3_markOf o0 x1 = some r) : ConR l yX3_markOf wsX3_markOf rmX3_markOf D cA [.ref (a0 0), .int x1] (wX3 cA a0 o0) r := by
  refine ConR.enter (cc := cX3_markOf) (maxL := 5) (by decide) rfl (Nat.le_of_ble_eq_true rfl) ?_
  intro p e s m args below meth c Q hx hb hml hown hts hK hP  hend ls hl
  have hl : lv_has ls 5 [(0, .ref (a0 0)), (1, .int x1)] := hl
  unfold f_X3_markOf at h
  have lkf19 := hts (.fieldLink RX3 19 "TiedToTown$Rope" "left" "I") (List.mem_of_getElem? (i := 1) rfl)
  have hinX3 : ∀ w ∈ wsX30, w ∈ wsX3_markOf := fun w h => List.mem_cons_of_mem _ (List.mem_append_right _ h)
  have LP4 : ∀ (x1 : Int32) (n : Nat) (x2 : Int32) (x3 : Int32) (ls : Array Slot) (_ : lv_has ls 5 [(0, .ref (a0 0)), (1, .int x1), (2, .int x2), (3, .int x3)]) (res : Int32) (_ : L_X3_markOf_4 x1 o0 n x2 x3 = some res) (_ : (∀ (ls : Array Slot), lv_has ls 5 [(2, .int res)] → W p l e rmX3_markOf s m args below meth c s.heap [] 0 0 Q (F0 m 48 ls []))), W p l e rmX3_markOf s m args below meth c s.heap [] 0 0 Q (F0 m 4 ls []) := by
    intro x1 n
    induction n with
    | zero =>
      intro x2 x3 ls hl res h K0
      exact absurd h (fun q : (none : Option (Int32)) = some res => by cases q)
    | succ n ih =>
      intro x2 x3 ls hl res h K0
      have h : L_X3_markOf_4_step x1 o0 (L_X3_markOf_4 x1 o0 n) x2 x3 = some res := h
      unfold L_X3_markOf_4_step at h
      refine lv_iload_n hx hb dX3_markOf_4 rfl (lv_at hl 3 rfl) ?_
      refine lv_aload_n hx hb dX3_markOf_5 rfl (lv_at hl 0 rfl) ?_
      refine va_get (D := D) (ci := 3) (v := .int (o0.1 1)) (C := RX3) (T := TX3) (N := 3) hx hb hts hinX3 hown hK.1 hP 0 rfl rfl 1 (by decide) lkf19 (fun _ h9 => h9) rfl dX3_markOf_6 ?_
      refine lv_icmp_ge (tgt := 48) hx hb dX3_markOf_9 (by decide) (fun hc => ?_) (fun hc => ?_)
      · have h := if_t hc h
        cases h
        exact K0 _ (lv_sub hl [2] rfl)
      · have h := if_f hc h
        refine lv_aload_n hx hb dX3_markOf_12 rfl (lv_at hl 0 rfl) ?_
        refine lv_iload_n hx hb dX3_markOf_13 rfl (lv_at hl 3 rfl) ?_
        obtain ⟨z1, hz1, h⟩ := bd_some h
        refine cR_V (As := [.int x3]) (rest := []) ⟨hx, hb, hml, hown, hts⟩ (c_X3_loosenedAt l D cA a0 o0 x3 z1 hz1) (cwV 1 hts gX3_markOf_X3_loosenedAt rfl rfl rfl hd_X3_loosenedAt ⟨(Nat.le_of_ble_eq_true rfl), (Nat.le_of_ble_eq_true rfl)⟩) (recvK hK hP 0 3 rfl rfl) hK hP [0, 1] rfl rfl hl.1 rfl (Nat.le_of_ble_eq_true rfl) dX3_markOf_14 ⟨(Nat.le_of_ble_eq_true rfl), (Nat.le_of_ble_eq_true rfl)⟩ ?_
        refine lv_istore (lv' := [(4, .int z1), (0, .ref (a0 0)), (1, .int x1), (2, .int x2), (3, .int x3)]) hx hb dX3_markOf_17 hl (by decide) rfl (fun ls hl => ?_)
        refine lv_iload hx hb dX3_markOf_19 (lv_at hl 0 rfl) ?_
        refine lv_iconst (v := (1 : Int32)) hx hb dX3_markOf_21 (by decide) ?_
        refine lv_ishr hx hb dX3_markOf_22 ?_
        refine lv_iload_n hx hb dX3_markOf_23 rfl (lv_at hl 2 rfl) ?_
        refine lv_icmp_ne (tgt := 42) hx hb dX3_markOf_24 (by decide) (fun hc => ?_) (fun hc => ?_)
        · have h := if_f hc h
          obtain ⟨v2, ev2⟩ : ∃ y : Int32, y = x3 + (1 : Int32) := ⟨_, rfl⟩
          refine lv_iinc (v := v2) (lv' := [(3, .int v2), (4, .int z1), (0, .ref (a0 0)), (1, .int x1), (2, .int x2)]) hx hb dX3_markOf_42 hl (k := 4) rfl (by rw [ev2]; rfl) (by decide) rfl (fun ls hl => ?_)
          have h := nm_ap ev2 h
          refine lv_goto (tgt := 4) hx hb dX3_markOf_45 (by decide) ?_
          exact ih x2 v2 ls (lv_sub hl [2, 3, 4, 0] rfl) _ h K0
        · have h := if_t hc h
          refine lv_iload_n hx hb dX3_markOf_27 rfl (lv_at hl 3 rfl) ?_
          refine lv_iload hx hb dX3_markOf_28 (lv_at hl 0 rfl) ?_
          refine lv_iconst (v := (1 : Int32)) hx hb dX3_markOf_30 (by decide) ?_
          refine lv_iand hx hb dX3_markOf_31 ?_
          refine lv_if_ne (tgt := 39) hx hb dX3_markOf_32 (by decide) (fun hc => ?_) (fun hc => ?_)
          · have h := if_f hc h
            refine lv_iconst (v := (-1 : Int32)) hx hb dX3_markOf_39 (by decide) ?_
            refine lv_iadd hx hb dX3_markOf_40 ?_
            refine lv_topi (fun v3 ev3 => ?_)
            have h := nm_ap ev3 h
            refine lv_istore_n (lv' := [(2, .int v3), (4, .int z1), (0, .ref (a0 0)), (1, .int x1), (3, .int x3)]) hx hb dX3_markOf_41 rfl hl (by decide) rfl (fun ls hl => ?_)
            obtain ⟨v4, ev4⟩ : ∃ y : Int32, y = x3 + (1 : Int32) := ⟨_, rfl⟩
            refine lv_iinc (v := v4) (lv' := [(3, .int v4), (2, .int v3), (4, .int z1), (0, .ref (a0 0)), (1, .int x1)]) hx hb dX3_markOf_42 hl (k := 4) rfl (by rw [ev4]; rfl) (by decide) rfl (fun ls hl => ?_)
            have h := nm_ap ev4 h
            refine lv_goto (tgt := 4) hx hb dX3_markOf_45 (by decide) ?_
            exact ih v3 v4 ls (lv_sub hl [3, 4, 1, 0] rfl) _ h K0
          · have h := if_t hc h
            refine lv_iconst (v := (1 : Int32)) hx hb dX3_markOf_35 (by decide) ?_
            refine lv_goto (tgt := 40) hx hb dX3_markOf_36 (by decide) ?_
            refine lv_iadd hx hb dX3_markOf_40 ?_
            refine lv_topi (fun v5 ev5 => ?_)
            have h := nm_ap ev5 h
            refine lv_istore_n (lv' := [(2, .int v5), (4, .int z1), (0, .ref (a0 0)), (1, .int x1), (3, .int x3)]) hx hb dX3_markOf_41 rfl hl (by decide) rfl (fun ls hl => ?_)
            obtain ⟨v6, ev6⟩ : ∃ y : Int32, y = x3 + (1 : Int32) := ⟨_, rfl⟩
            refine lv_iinc (v := v6) (lv' := [(3, .int v6), (2, .int v5), (4, .int z1), (0, .ref (a0 0)), (1, .int x1)]) hx hb dX3_markOf_42 hl (k := 4) rfl (by rw [ev6]; rfl) (by decide) rfl (fun ls hl => ?_)
            have h := nm_ap ev6 h
            refine lv_goto (tgt := 4) hx hb dX3_markOf_45 (by decide) ?_
            exact ih v5 v6 ls (lv_sub hl [3, 4, 1, 0] rfl) _ h K0
  refine lv_iconst (v := (0 : Int32)) hx hb dX3_markOf_0 (by decide) ?_
  refine lv_istore_n (lv' := [(2, .int (0 : Int32)), (0, .ref (a0 0)), (1, .int x1)]) hx hb dX3_markOf_1 rfl hl (by decide) rfl (fun ls hl => ?_)
  refine lv_iconst (v := (0 : Int32)) hx hb dX3_markOf_2 (by decide) ?_
  refine lv_istore_n (lv' := [(3, .int (0 : Int32)), (2, .int (0 : Int32)), (0, .ref (a0 0)), (1, .int x1)]) hx hb dX3_markOf_3 rfl hl (by decide) rfl (fun ls hl => ?_)
  obtain ⟨z1, hz1, h⟩ := bd_some h
  refine LP4 x1 512 (0 : Int32) (0 : Int32) ls (lv_sub hl [2, 3, 1, 0] rfl) _ hz1 ?_
  · intro ls hl
    refine lv_iload_n hx hb dX3_markOf_48 rfl (lv_at hl 0 rfl) ?_
    cases h
    exact hend _ _ dX3_markOf_49
abbrev rmX4_size : Room := ({ frames := 0, cells := 0, slots := 0, locals := 0 } : Room)
set_option maxHeartbeats 4000000 in
set_option maxRecDepth 100000 in
theorem c_X4_size (l : Launch) (D : va_G) (cA : ClassId) (a0 : (Nat → Nat)) (o0 : Ob) (r : Int32) (h : f_X4_size o0 = some r) : ConR l yX4_size wsX4_size rmX4_size D cA [.ref (a0 0)] (wX4 cA a0 o0) r := by
  refine ConR.enter (cc := cX4_size) (maxL := 1) (by decide) rfl (Nat.le_of_ble_eq_true rfl) ?_
  intro p e s m args below meth c Q hx hb hml hown hts hK hP  hend ls hl
  have hl : lv_has ls 1 [(0, .ref (a0 0))] := hl
  unfold f_X4_size at h
  have lkf15 := hts (.fieldLink RX4 15 "TiedToTown$Row" "size" "I") (List.mem_of_getElem? (i := 1) rfl)
  have hinX4 : ∀ w ∈ wsX40, w ∈ wsX4_size := fun w h => List.mem_cons_of_mem _ (List.mem_append_right _ h)
  refine lv_aload_n hx hb dX4_size_0 rfl (lv_at hl 0 rfl) ?_
  refine va_get (D := D) (ci := 4) (v := .int (o0.1 1)) (C := RX4) (T := TX4) (N := 2) hx hb hts hinX4 hown hK.1 hP 0 rfl rfl 1 (by decide) lkf15 (fun _ h9 => h9) rfl dX4_size_1 ?_
  cases h
  exact hend _ _ dX4_size_4
abbrev rmX4_empty : Room := ({ frames := 0, cells := 0, slots := 0, locals := 0 } : Room)
set_option maxHeartbeats 4000000 in
set_option maxRecDepth 100000 in
theorem c_X4_empty (l : Launch) (D : va_G) (cA : ClassId) (a0 : (Nat → Nat)) (o0 : Ob) (o0_ : Ob) (h : f_X4_empty o0 = some o0_) : ConV l yX4_empty wsX4_empty rmX4_empty D cA [.ref (a0 0)] (wX4 cA a0 o0) (wX4 cA a0 o0_) := by
  refine ConV.enter (cc := cX4_empty) (maxL := 1) (by decide) rfl (Nat.le_of_ble_eq_true rfl) ?_
  intro p e s m args below meth c Q A hx hb hml hown hts hK hP hD hA hend ls hl
  have hS : va_S A s.heap s.heap [] := va_S.rf
  have hl : lv_has ls 1 [(0, .ref (a0 0))] := hl
  unfold f_X4_empty at h
  have lkf15 := hts (.fieldLink RX4 15 "TiedToTown$Row" "size" "I") (List.mem_of_getElem? (i := 1) rfl)
  have hinX4 : ∀ w ∈ wsX40, w ∈ wsX4_empty := fun w h => List.mem_cons_of_mem _ (List.mem_append_right _ h)
  refine lv_aload_n hx hb dX4_empty_0 rfl (lv_at hl 0 rfl) ?_
  refine lv_iconst (v := (0 : Int32)) hx hb dX4_empty_1 (by decide) ?_
  refine va_put (D := D) (ci := 4) (v := .int (0 : Int32)) (ty := .int) (C := RX4) (T := TX4) (N := 2) hx hb hts hinX4 tyX4 tyX4_ok nmX4 hown hK.1 hP hD hS 0 rfl rfl 1 (by decide) lkf15 (fun _ h9 => h9) rfl (by decide +kernel) rfl rfl (Nat.le_of_ble_eq_true rfl) dX4_empty_2 (fun H locs hP hD hS => ?_)
  have hP : va_P D vwCl (wX4 cA a0 (sF o0 1 (0 : Int32))) H := hP
  have hD : va_D A (wX4 cA a0 (sF o0 1 (0 : Int32))) := hD
  obtain ⟨s1, es1⟩ : ∃ z, z = sF o0 1 (0 : Int32) := ⟨_, rfl⟩
  rw [← es1] at hP hD
  have h := nm_ap es1 h
  cases h
  exact hend _ _ _ _ hP hD hS dX4_empty_5
abbrev rmX4_append : Room := ({ frames := 0, cells := 0, slots := 0, locals := 0 } : Room)
set_option maxHeartbeats 4000000 in
set_option maxRecDepth 100000 in
theorem c_X4_append (l : Launch) (D : va_G) (cA : ClassId) (a0 : (Nat → Nat)) (o0 : Ob) (x1 : Int32) (o0_ : Ob) (h : f_X4_append o0 x1 = some o0_) : ConV l yX4_append wsX4_append rmX4_append D cA [.ref (a0 0), .int x1] (wX4 cA a0 o0) (wX4 cA a0 o0_) := by
  refine ConV.enter (cc := cX4_append) (maxL := 2) (by decide) rfl (Nat.le_of_ble_eq_true rfl) ?_
  intro p e s m args below meth c Q A hx hb hml hown hts hK hP hD hA hend ls hl
  have hS : va_S A s.heap s.heap [] := va_S.rf
  have hl : lv_has ls 2 [(0, .ref (a0 0)), (1, .int x1)] := hl
  unfold f_X4_append at h
  have lkf15 := hts (.fieldLink RX4 15 "TiedToTown$Row" "size" "I") (List.mem_of_getElem? (i := 1) rfl)
  have hinX4 : ∀ w ∈ wsX40, w ∈ wsX4_append := fun w h => List.mem_cons_of_mem _ (List.mem_append_right _ h)
  have lkf9 := hts (.fieldLink RX4 9 "TiedToTown$Row" "knots" "[I") (List.mem_of_getElem? (i := 2) rfl)
  refine lv_aload_n hx hb dX4_append_0 rfl (lv_at hl 0 rfl) ?_
  refine va_get (D := D) (ci := 4) (v := .int (o0.1 1)) (C := RX4) (T := TX4) (N := 2) hx hb hts hinX4 hown hK.1 hP 0 rfl rfl 1 (by decide) lkf15 (fun _ h9 => h9) rfl dX4_append_1 ?_
  refine lv_aload_n hx hb dX4_append_4 rfl (lv_at hl 0 rfl) ?_
  refine va_get (D := D) (ci := 4) (v := .ref (a0 1)) (C := RX4) (T := TX4) (N := 2) hx hb hts hinX4 hown hK.1 hP 0 rfl rfl 0 (by decide) lkf9 (fun _ h9 => h9) rfl dX4_append_5 ?_
  refine alen (v := (8 : Int32)) hx hb hK hP 1 rfl (by decide) dX4_append_8 ?_
  refine lv_icmp_ge (tgt := 32) hx hb dX4_append_9 (by decide) (fun hc => ?_) (fun hc => ?_)
  · have h := if_t hc h
    cases h
    exact hend _ _ _ _ hP hD hS dX4_append_32
  · have h := if_f hc h
    refine lv_aload_n hx hb dX4_append_12 rfl (lv_at hl 0 rfl) ?_
    refine va_get (D := D) (ci := 4) (v := .ref (a0 1)) (C := RX4) (T := TX4) (N := 2) hx hb hts hinX4 hown hK.1 hP 0 rfl rfl 0 (by decide) lkf9 (fun _ h9 => h9) rfl dX4_append_13 ?_
    refine lv_aload_n hx hb dX4_append_16 rfl (lv_at hl 0 rfl) ?_
    refine va_get (D := D) (ci := 4) (v := .int (o0.1 1)) (C := RX4) (T := TX4) (N := 2) hx hb hts hinX4 hown hK.1 hP 0 rfl rfl 1 (by decide) lkf15 (fun _ h9 => h9) rfl dX4_append_17 ?_
    refine lv_iload_n hx hb dX4_append_20 rfl (lv_at hl 1 rfl) ?_
    obtain ⟨hi1, h⟩ := gd_some h
    refine iast (j := (o0.1 1).toNatClampNeg) (wn := (wX4 cA a0 (sA o0 0 (o0.1 1).toNatClampNeg x1))) hx hb hK hP hD hS 1 rfl rfl (ck_in hi1) dX4_append_21 rfl (fun H locs hP hD hS => ?_)
    obtain ⟨s2, es2⟩ : ∃ z, z = sA o0 0 (o0.1 1).toNatClampNeg x1 := ⟨_, rfl⟩
    rw [← es2] at hP hD
    have h := nm_ap es2 h
    refine lv_aload_n hx hb dX4_append_22 rfl (lv_at hl 0 rfl) ?_
    refine lv_dup hx hb dX4_append_23 rfl ?_
    refine va_get (D := D) (ci := 4) (v := .int (s2.1 1)) (C := RX4) (T := TX4) (N := 2) hx hb hts hinX4 hown hK.1 hP 0 rfl rfl 1 (by decide) lkf15 (fun _ h9 => h9) rfl dX4_append_24 ?_
    refine lv_iconst (v := (1 : Int32)) hx hb dX4_append_27 (by decide) ?_
    refine lv_iadd hx hb dX4_append_28 ?_
    refine va_put (D := D) (ci := 4) (v := .int ((s2.1 1) + (1 : Int32))) (ty := .int) (C := RX4) (T := TX4) (N := 2) hx hb hts hinX4 tyX4 tyX4_ok nmX4 hown hK.1 hP hD hS 0 rfl rfl 1 (by decide) lkf15 (fun _ h9 => h9) rfl (by decide +kernel) rfl rfl (Nat.le_of_ble_eq_true rfl) dX4_append_29 (fun H locs hP hD hS => ?_)
    have hP : va_P D vwCl (wX4 cA a0 (sF s2 1 ((s2.1 1) + (1 : Int32)))) H := hP
    have hD : va_D A (wX4 cA a0 (sF s2 1 ((s2.1 1) + (1 : Int32)))) := hD
    obtain ⟨s3, es3⟩ : ∃ z, z = sF s2 1 ((s2.1 1) + (1 : Int32)) := ⟨_, rfl⟩
    rw [← es3] at hP hD
    have h := nm_ap es3 h
    cases h
    exact hend _ _ _ _ hP hD hS dX4_append_32
abbrev rmX4_setFrom : Room := ({ frames := 1, cells := 0, slots := 0, locals := 20 } : Room)
set_option maxHeartbeats 4000000 in
set_option maxRecDepth 100000 in
theorem c_X4_setFrom (l : Launch) (D : va_G) (cA : ClassId) (a0 : (Nat → Nat)) (o0 : Ob) (x1 : Int32) (r : Int32) (h : f_X4_setFrom o0 x1 = some r) : ConR l yX4_setFrom wsX4_setFrom rmX4_setFrom D cA [.ref (a0 0), .int x1] (wX4 cA a0 o0) r := by
  refine ConR.enter (cc := cX4_setFrom) (maxL := 4) (by decide) rfl (Nat.le_of_ble_eq_true rfl) ?_
  intro p e s m args below meth c Q hx hb hml hown hts hK hP  hend ls hl
  have hl : lv_has ls 4 [(0, .ref (a0 0)), (1, .int x1)] := hl
  unfold f_X4_setFrom at h
  have lkf15 := hts (.fieldLink RX4 15 "TiedToTown$Row" "size" "I") (List.mem_of_getElem? (i := 1) rfl)
  have hinX4 : ∀ w ∈ wsX40, w ∈ wsX4_setFrom := fun w h => List.mem_cons_of_mem _ (List.mem_append_right _ h)
  have lkf9 := hts (.fieldLink RX4 9 "TiedToTown$Row" "knots" "[I") (List.mem_of_getElem? (i := 2) rfl)
  have LP4 : ∀ (n : Nat) (x2 : Int32) (x3 : Int32) (ls : Array Slot) (_ : lv_has ls 4 [(0, .ref (a0 0)), (2, .int x2), (3, .int x3)]) (res : Int32) (_ : L_X4_setFrom_4 o0 n x2 x3 = some res) (_ : (∀ (ls : Array Slot), lv_has ls 4 [(2, .int res)] → W p l e rmX4_setFrom s m args below meth c s.heap [] 0 0 Q (F0 m 39 ls []))), W p l e rmX4_setFrom s m args below meth c s.heap [] 0 0 Q (F0 m 4 ls []) := by
    intro n
    induction n with
    | zero =>
      intro x2 x3 ls hl res h K0
      exact absurd h (fun q : (none : Option (Int32)) = some res => by cases q)
    | succ n ih =>
      intro x2 x3 ls hl res h K0
      have h : L_X4_setFrom_4_step o0 (L_X4_setFrom_4 o0 n) x2 x3 = some res := h
      unfold L_X4_setFrom_4_step at h
      refine lv_iload_n hx hb dX4_setFrom_4 rfl (lv_at hl 2 rfl) ?_
      refine lv_aload_n hx hb dX4_setFrom_5 rfl (lv_at hl 0 rfl) ?_
      refine va_get (D := D) (ci := 4) (v := .int (o0.1 1)) (C := RX4) (T := TX4) (N := 2) hx hb hts hinX4 hown hK.1 hP 0 rfl rfl 1 (by decide) lkf15 (fun _ h9 => h9) rfl dX4_setFrom_6 ?_
      refine lv_icmp_ge (tgt := 39) hx hb dX4_setFrom_9 (by decide) (fun hc => ?_) (fun hc => ?_)
      · have h := if_t hc h
        cases h
        exact K0 _ (lv_sub hl [1] rfl)
      · have h := if_f hc h
        refine lv_iload_n hx hb dX4_setFrom_12 rfl (lv_at hl 2 rfl) ?_
        refine lv_aload_n hx hb dX4_setFrom_13 rfl (lv_at hl 0 rfl) ?_
        refine va_get (D := D) (ci := 4) (v := .ref (a0 1)) (C := RX4) (T := TX4) (N := 2) hx hb hts hinX4 hown hK.1 hP 0 rfl rfl 0 (by decide) lkf9 (fun _ h9 => h9) rfl dX4_setFrom_14 ?_
        refine alen (v := (8 : Int32)) hx hb hK hP 1 rfl (by decide) dX4_setFrom_17 ?_
        refine lv_icmp_ge (tgt := 39) hx hb dX4_setFrom_18 (by decide) (fun hc => ?_) (fun hc => ?_)
        · have h := if_t hc h
          cases h
          exact K0 _ (lv_sub hl [1] rfl)
        · have h := if_f hc h
          refine lv_iload_n hx hb dX4_setFrom_21 rfl (lv_at hl 1 rfl) ?_
          refine lv_aload_n hx hb dX4_setFrom_22 rfl (lv_at hl 0 rfl) ?_
          refine va_get (D := D) (ci := 4) (v := .ref (a0 1)) (C := RX4) (T := TX4) (N := 2) hx hb hts hinX4 hown hK.1 hP 0 rfl rfl 0 (by decide) lkf9 (fun _ h9 => h9) rfl dX4_setFrom_23 ?_
          refine lv_iload_n hx hb dX4_setFrom_26 rfl (lv_at hl 2 rfl) ?_
          obtain ⟨hi1, h⟩ := gd_some h
          refine iald (q0 := 0) (t0 := 0) (j := x3.toNatClampNeg) hx hb hK hP 1 rfl rfl (ck_in hi1) dX4_setFrom_27 ?_
          obtain ⟨z2, hz2, h⟩ := bd_some h
          refine cR_SN (As := [.int (o0.2 0 x3.toNatClampNeg)]) (rest := [.int x2]) ⟨hx, hb, hml, hown, hts⟩ (c_X7_bit l D cA  (o0.2 0 x3.toNatClampNeg) z2 hz2) ⟨va_cnB 1 hts gX4_setFrom_X7_bit_n27 rfl rfl rfl (hK.2 _ (List.mem_of_getElem? (i := 34) rfl) : va_Nw (Cond.methodLinkNest RX4 27 yX7_bit "TiedToTown") s) (hts (.initialized RX7) (List.mem_of_getElem? (i := 4) rfl)) hd_X7_bit.2 ⟨(Nat.le_of_ble_eq_true rfl), (Nat.le_of_ble_eq_true rfl)⟩, hts (.static yX7_bit) (List.mem_of_getElem? (i := 3) rfl), trivial⟩ hK hP [] rfl rfl hl.1 rfl (Nat.le_of_ble_eq_true rfl) dX4_setFrom_28 ⟨(Nat.le_of_ble_eq_true rfl), (Nat.le_of_ble_eq_true rfl)⟩ ?_
          refine lv_ior hx hb dX4_setFrom_31 ?_
          refine lv_topi (fun v3 ev3 => ?_)
          have h := nm_ap ev3 h
          refine lv_istore_n (lv' := [(2, .int v3), (0, .ref (a0 0)), (3, .int x3)]) hx hb dX4_setFrom_32 rfl hl (by decide) rfl (fun ls hl => ?_)
          obtain ⟨v4, ev4⟩ : ∃ y : Int32, y = x3 + (1 : Int32) := ⟨_, rfl⟩
          refine lv_iinc (v := v4) (lv' := [(3, .int v4), (2, .int v3), (0, .ref (a0 0))]) hx hb dX4_setFrom_33 hl (k := 2) rfl (by rw [ev4]; rfl) (by decide) rfl (fun ls hl => ?_)
          have h := nm_ap ev4 h
          refine lv_goto (tgt := 4) hx hb dX4_setFrom_36 (by decide) ?_
          exact ih v3 v4 ls (lv_sub hl [2, 1, 0] rfl) _ h K0
  refine lv_iconst (v := (0 : Int32)) hx hb dX4_setFrom_0 (by decide) ?_
  refine lv_istore_n (lv' := [(2, .int (0 : Int32)), (0, .ref (a0 0)), (1, .int x1)]) hx hb dX4_setFrom_1 rfl hl (by decide) rfl (fun ls hl => ?_)
  refine lv_iload_n hx hb dX4_setFrom_2 rfl (lv_at hl 2 rfl) ?_
  refine lv_istore_n (lv' := [(3, .int x1), (2, .int (0 : Int32)), (0, .ref (a0 0)), (1, .int x1)]) hx hb dX4_setFrom_3 rfl hl (by decide) rfl (fun ls hl => ?_)
  obtain ⟨z1, hz1, h⟩ := bd_some h
  refine LP4 512 (0 : Int32) x1 ls (lv_sub hl [2, 1, 0] rfl) _ hz1 ?_
  · intro ls hl
    refine lv_iload_n hx hb dX4_setFrom_39 rfl (lv_at hl 0 rfl) ?_
    cases h
    exact hend _ _ dX4_setFrom_40
abbrev rmX4_holds : Room := ({ frames := 2, cells := 0, slots := 0, locals := 43 } : Room)
set_option maxHeartbeats 4000000 in
set_option maxRecDepth 100000 in
theorem c_X4_holds (l : Launch) (D : va_G) (cA : ClassId) (a0 : (Nat → Nat)) (o0 : Ob) (x1 : Int32) (r : Int32) (h : f_X4_holds o0 x1 = some r) : ConR l yX4_holds wsX4_holds rmX4_holds D cA [.ref (a0 0), .int x1] (wX4 cA a0 o0) r := by
  refine ConZ.enter (cc := cX4_holds) (maxL := 2) (by decide) rfl (Nat.le_of_ble_eq_true rfl) ?_
  intro p e s m args below meth c Q hx hb hml hown hts hK hP  hend ls hl
  have hl : lv_has ls 2 [(0, .ref (a0 0)), (1, .int x1)] := hl
  unfold f_X4_holds at h
  refine lv_aload_n hx hb dX4_holds_0 rfl (lv_at hl 0 rfl) ?_
  refine lv_iconst (v := (0 : Int32)) hx hb dX4_holds_1 (by decide) ?_
  obtain ⟨z1, hz1, h⟩ := bd_some h
  refine cR_V (As := [.int (0 : Int32)]) (rest := []) ⟨hx, hb, hml, hown, hts⟩ (c_X4_setFrom l D cA a0 o0 (0 : Int32) z1 hz1) (cwV 1 hts gX4_holds_X4_setFrom rfl rfl rfl hd_X4_setFrom ⟨(Nat.le_of_ble_eq_true rfl), (Nat.le_of_ble_eq_true rfl)⟩) (recvK hK hP 0 4 rfl rfl) hK hP [0, 1] rfl rfl hl.1 rfl (Nat.le_of_ble_eq_true rfl) dX4_holds_2 ⟨(Nat.le_of_ble_eq_true rfl), (Nat.le_of_ble_eq_true rfl)⟩ ?_
  refine lv_iload_n hx hb dX4_holds_5 rfl (lv_at hl 1 rfl) ?_
  obtain ⟨z2, hz2, h⟩ := bd_some h
  refine cR_SN (As := [.int z1, .int x1]) (rest := []) ⟨hx, hb, hml, hown, hts⟩ (c_X7_has l D cA  z1 x1 z2 hz2) ⟨va_cnB 2 hts gX4_holds_X7_has_n23 rfl rfl rfl (hK.2 _ (List.mem_of_getElem? (i := 35) rfl) : va_Nw (Cond.methodLinkNest RX4 23 yX7_has "TiedToTown") s) (hts (.initialized RX7) (List.mem_of_getElem? (i := 9) rfl)) hd_X7_has.2 ⟨(Nat.le_of_ble_eq_true rfl), (Nat.le_of_ble_eq_true rfl)⟩, hts (.static yX7_has) (List.mem_of_getElem? (i := 11) rfl), trivial⟩ hK hP [] rfl rfl hl.1 rfl (Nat.le_of_ble_eq_true rfl) dX4_holds_6 ⟨(Nat.le_of_ble_eq_true rfl), (Nat.le_of_ble_eq_true rfl)⟩ ?_
  obtain ⟨hz9, h⟩ := gd_some h
  cases h
  exact hend _ _ (ckz_n hz9) dX4_holds_9
abbrev rmX4_firstWrong : Room := ({ frames := 2, cells := 0, slots := 0, locals := 43 } : Room)
set_option maxHeartbeats 4000000 in
set_option maxRecDepth 100000 in
theorem c_X4_firstWrong (l : Launch) (D : va_G) (cA : ClassId) (a0 : (Nat → Nat)) (o0 : Ob) (a1 : (Nat → Nat)) (o1 : Ob) (r : Int32) (h : f_X4_firstWrong o0 o1 = some r) : ConR l yX4_firstWrong wsX4_firstWrong rmX4_firstWrong D cA [.ref (a0 0), .ref (a1 0)] (wX4 cA a0 o0 ++ wX6 cA a1 o1) r := by
  refine ConR.enter (cc := cX4_firstWrong) (maxL := 4) (by decide) rfl (Nat.le_of_ble_eq_true rfl) ?_
  intro p e s m args below meth c Q hx hb hml hown hts hK hP  hend ls hl
  have hl : lv_has ls 4 [(0, .ref (a0 0)), (1, .ref (a1 0))] := hl
  unfold f_X4_firstWrong at h
  have lkf15 := hts (.fieldLink RX4 15 "TiedToTown$Row" "size" "I") (List.mem_of_getElem? (i := 1) rfl)
  have hinX4 : ∀ w ∈ wsX40, w ∈ wsX4_firstWrong := fun w h => List.mem_cons_of_mem _ (List.mem_append_left _ (List.mem_append_right _ h))
  have lkf9 := hts (.fieldLink RX4 9 "TiedToTown$Row" "knots" "[I") (List.mem_of_getElem? (i := 2) rfl)
  have lkf36 := va_Nw.use (w := Cond.fieldLinkNest RX4 36 "TiedToTown$Town" "through" "[I" "TiedToTown") rfl (A := args) (hK.2 _ (List.mem_of_getElem? (i := 7) rfl))
  have hinX6 : ∀ w ∈ wsX60, w ∈ wsX4_firstWrong := fun w h => List.mem_cons_of_mem _ (List.mem_append_right _ h)
  have LP2 : ∀ (n : Nat) (x2 : Int32) (ls : Array Slot) (_ : lv_has ls 4 [(0, .ref (a0 0)), (1, .ref (a1 0)), (2, .int x2)]) (res : Nat × Int32) (_ : L_X4_firstWrong_2 o0 o1 n x2 = some res) (_ : (∀ (ls : Array Slot), lv_has ls 4 [(2, .int res.2)] → res.1 = 0 → W p l e rmX4_firstWrong s m args below meth c s.heap [] 0 0 Q (F0 m 51 ls []))) (_ : (∀ (ls : Array Slot), lv_has ls 4 [] → res.1 = 1 → W p l e rmX4_firstWrong s m args below meth c s.heap [] 0 0 Q (F0 m 59 ls []))), W p l e rmX4_firstWrong s m args below meth c s.heap [] 0 0 Q (F0 m 2 ls []) := by
    intro n
    induction n with
    | zero =>
      intro x2 ls hl res h K0 K1
      exact absurd h (fun q : (none : Option (Nat × Int32)) = some res => by cases q)
    | succ n ih =>
      intro x2 ls hl res h K0 K1
      have h : L_X4_firstWrong_2_step o0 o1 (L_X4_firstWrong_2 o0 o1 n) x2 = some res := h
      unfold L_X4_firstWrong_2_step at h
      refine lv_iload_n hx hb dX4_firstWrong_2 rfl (lv_at hl 2 rfl) ?_
      refine lv_aload_n hx hb dX4_firstWrong_3 rfl (lv_at hl 0 rfl) ?_
      refine va_get (D := D) (ci := 4) (v := .int (o0.1 1)) (C := RX4) (T := TX4) (N := 2) hx hb hts hinX4 hown hK.1 hP 0 rfl rfl 1 (by decide) lkf15 (fun _ h9 => h9) rfl dX4_firstWrong_4 ?_
      refine lv_icmp_ge (tgt := 59) hx hb dX4_firstWrong_7 (by decide) (fun hc => ?_) (fun hc => ?_)
      · have h := if_t hc h
        cases h
        exact K1 _ (lv_sub hl [] rfl) rfl
      · have h := if_f hc h
        refine lv_iload_n hx hb dX4_firstWrong_10 rfl (lv_at hl 2 rfl) ?_
        refine lv_aload_n hx hb dX4_firstWrong_11 rfl (lv_at hl 0 rfl) ?_
        refine va_get (D := D) (ci := 4) (v := .ref (a0 1)) (C := RX4) (T := TX4) (N := 2) hx hb hts hinX4 hown hK.1 hP 0 rfl rfl 0 (by decide) lkf9 (fun _ h9 => h9) rfl dX4_firstWrong_12 ?_
        refine alen (v := (8 : Int32)) hx hb hK hP 1 rfl (by decide) dX4_firstWrong_15 ?_
        refine lv_icmp_ge (tgt := 59) hx hb dX4_firstWrong_16 (by decide) (fun hc => ?_) (fun hc => ?_)
        · have h := if_t hc h
          cases h
          exact K1 _ (lv_sub hl [] rfl) rfl
        · have h := if_f hc h
          refine lv_aload_n hx hb dX4_firstWrong_19 rfl (lv_at hl 0 rfl) ?_
          refine va_get (D := D) (ci := 4) (v := .ref (a0 1)) (C := RX4) (T := TX4) (N := 2) hx hb hts hinX4 hown hK.1 hP 0 rfl rfl 0 (by decide) lkf9 (fun _ h9 => h9) rfl dX4_firstWrong_20 ?_
          refine lv_iload_n hx hb dX4_firstWrong_23 rfl (lv_at hl 2 rfl) ?_
          obtain ⟨hi1, h⟩ := gd_some h
          refine iald (q0 := 0) (t0 := 0) (j := x2.toNatClampNeg) hx hb hK hP 1 rfl rfl (ck_in hi1) dX4_firstWrong_24 ?_
          refine lv_topi (fun v2 ev2 => ?_)
          have h := nm_ap ev2 h
          refine lv_istore_n (lv' := [(3, .int v2), (0, .ref (a0 0)), (1, .ref (a1 0)), (2, .int x2)]) hx hb dX4_firstWrong_25 rfl hl (by decide) rfl (fun ls hl => ?_)
          refine lv_aload_n hx hb dX4_firstWrong_26 rfl (lv_at hl 2 rfl) ?_
          refine lv_iload_n hx hb dX4_firstWrong_27 rfl (lv_at hl 0 rfl) ?_
          obtain ⟨z3, hz3, h⟩ := bd_some h
          refine cR_V (As := [.int v2]) (rest := []) ⟨hx, hb, hml, hown, hts⟩ (c_X6_isKnot l D cA a1 o1 v2 z3 hz3) (cwV 1 hts gX4_firstWrong_X6_isKnot rfl rfl rfl hd_X6_isKnot ⟨(Nat.le_of_ble_eq_true rfl), (Nat.le_of_ble_eq_true rfl)⟩) (recvK hK hP 2 6 rfl rfl) hK hP [2, 3, 4, 5, 6, 7, 8] rfl rfl hl.1 rfl (Nat.le_of_ble_eq_true rfl) dX4_firstWrong_28 ⟨(Nat.le_of_ble_eq_true rfl), (Nat.le_of_ble_eq_true rfl)⟩ ?_
          refine lv_if_eq (tgt := 53) hx hb dX4_firstWrong_31 (by decide) (fun hc => ?_) (fun hc => ?_)
          · have h := if_t hc h
            obtain ⟨v4, ev4⟩ : ∃ y : Int32, y = x2 + (1 : Int32) := ⟨_, rfl⟩
            refine lv_iinc (v := v4) (lv' := [(2, .int v4), (3, .int v2), (0, .ref (a0 0)), (1, .ref (a1 0))]) hx hb dX4_firstWrong_53 hl (k := 3) rfl (by rw [ev4]; rfl) (by decide) rfl (fun ls hl => ?_)
            have h := nm_ap ev4 h
            refine lv_goto (tgt := 2) hx hb dX4_firstWrong_56 (by decide) ?_
            exact ih v4 ls (lv_sub hl [2, 3, 0] rfl) _ h K0 K1
          · have h := if_f hc h
            refine lv_aload_n hx hb dX4_firstWrong_34 rfl (lv_at hl 2 rfl) ?_
            refine va_getN (D := D) (ci := 6) (v := .ref (a1 4)) (C := RX6) (T := TX6) (N := 12) hx hb hts hinX6 hown hK.1 hP 2 rfl rfl 3 (by decide) lkf36 (fun _ h9 => h9) rfl dX4_firstWrong_35 ?_
            refine lv_iload_n hx hb dX4_firstWrong_38 rfl (lv_at hl 0 rfl) ?_
            obtain ⟨hi5, h⟩ := gd_some h
            refine iald (q0 := 0) (t0 := 0) (j := v2.toNatClampNeg) hx hb hK hP 6 rfl rfl (ck_in hi5) dX4_firstWrong_39 ?_
            refine lv_aload_n hx hb dX4_firstWrong_40 rfl (lv_at hl 1 rfl) ?_
            refine lv_iload_n hx hb dX4_firstWrong_41 rfl (lv_at hl 3 rfl) ?_
            refine lv_iconst (v := (1 : Int32)) hx hb dX4_firstWrong_42 (by decide) ?_
            refine lv_iadd hx hb dX4_firstWrong_43 ?_
            obtain ⟨z6, hz6, h⟩ := bd_some h
            refine cR_V (As := [.int (x2 + (1 : Int32))]) (rest := [.int (o1.2 3 v2.toNatClampNeg)]) ⟨hx, hb, hml, hown, hts⟩ (c_X4_setFrom l D cA a0 o0 (x2 + (1 : Int32)) z6 hz6) (cwV 1 hts gX4_firstWrong_X4_setFrom rfl rfl rfl hd_X4_setFrom ⟨(Nat.le_of_ble_eq_true rfl), (Nat.le_of_ble_eq_true rfl)⟩) (recvK hK hP 0 4 rfl rfl) hK hP [0, 1] rfl rfl hl.1 rfl (Nat.le_of_ble_eq_true rfl) dX4_firstWrong_44 ⟨(Nat.le_of_ble_eq_true rfl), (Nat.le_of_ble_eq_true rfl)⟩ ?_
            refine lv_iand hx hb dX4_firstWrong_47 ?_
            refine lv_if_eq (tgt := 53) hx hb dX4_firstWrong_48 (by decide) (fun hc => ?_) (fun hc => ?_)
            · have h := if_t hc h
              obtain ⟨v7, ev7⟩ : ∃ y : Int32, y = x2 + (1 : Int32) := ⟨_, rfl⟩
              refine lv_iinc (v := v7) (lv' := [(2, .int v7), (3, .int v2), (0, .ref (a0 0)), (1, .ref (a1 0))]) hx hb dX4_firstWrong_53 hl (k := 3) rfl (by rw [ev7]; rfl) (by decide) rfl (fun ls hl => ?_)
              have h := nm_ap ev7 h
              refine lv_goto (tgt := 2) hx hb dX4_firstWrong_56 (by decide) ?_
              exact ih v7 ls (lv_sub hl [2, 3, 0] rfl) _ h K0 K1
            · have h := if_f hc h
              cases h
              exact K0 _ (lv_sub hl [3] rfl) rfl
  refine lv_iconst (v := (0 : Int32)) hx hb dX4_firstWrong_0 (by decide) ?_
  refine lv_istore_n (lv' := [(2, .int (0 : Int32)), (0, .ref (a0 0)), (1, .ref (a1 0))]) hx hb dX4_firstWrong_1 rfl hl (by decide) rfl (fun ls hl => ?_)
  obtain ⟨z1, hz1, h⟩ := bd_some h
  refine LP2 512 (0 : Int32) ls (lv_sub hl [1, 2, 0] rfl) _ hz1 ?_ ?_
  · intro ls hl hi
    have h := if_t hi h
    refine lv_iload_n hx hb dX4_firstWrong_51 rfl (lv_at hl 0 rfl) ?_
    cases h
    exact hend _ _ dX4_firstWrong_52
  · intro ls hl hi
    have h := if_f (by rw [hi]; decide) h
    refine lv_bipush (v := (-4 : Int32)) hx hb dX4_firstWrong_59 (by decide) ?_
    cases h
    exact hend _ _ dX4_firstWrong_61
abbrev rmX5_empty : Room := ({ frames := 0, cells := 0, slots := 0, locals := 0 } : Room)
set_option maxHeartbeats 4000000 in
set_option maxRecDepth 100000 in
theorem c_X5_empty (l : Launch) (D : va_G) (cA : ClassId) (a0 : (Nat → Nat)) (o0 : Ob) (o0_ : Ob) (h : f_X5_empty o0 = some o0_) : ConV l yX5_empty wsX5_empty rmX5_empty D cA [.ref (a0 0)] (wX5 cA a0 o0) (wX5 cA a0 o0_) := by
  refine ConV.enter (cc := cX5_empty) (maxL := 1) (by decide) rfl (Nat.le_of_ble_eq_true rfl) ?_
  intro p e s m args below meth c Q A hx hb hml hown hts hK hP hD hA hend ls hl
  have hS : va_S A s.heap s.heap [] := va_S.rf
  have hl : lv_has ls 1 [(0, .ref (a0 0))] := hl
  unfold f_X5_empty at h
  have lkf15 := hts (.fieldLink RX5 15 "TiedToTown$Text" "size" "I") (List.mem_of_getElem? (i := 1) rfl)
  have hinX5 : ∀ w ∈ wsX50, w ∈ wsX5_empty := fun w h => List.mem_cons_of_mem _ (List.mem_append_right _ h)
  refine lv_aload_n hx hb dX5_empty_0 rfl (lv_at hl 0 rfl) ?_
  refine lv_iconst (v := (0 : Int32)) hx hb dX5_empty_1 (by decide) ?_
  refine va_put (D := D) (ci := 5) (v := .int (0 : Int32)) (ty := .int) (C := RX5) (T := TX5) (N := 2) hx hb hts hinX5 tyX5 tyX5_ok nmX5 hown hK.1 hP hD hS 0 rfl rfl 1 (by decide) lkf15 (fun _ h9 => h9) rfl (by decide +kernel) rfl rfl (Nat.le_of_ble_eq_true rfl) dX5_empty_2 (fun H locs hP hD hS => ?_)
  have hP : va_P D vwCl (wX5 cA a0 (sF o0 1 (0 : Int32))) H := hP
  have hD : va_D A (wX5 cA a0 (sF o0 1 (0 : Int32))) := hD
  obtain ⟨s1, es1⟩ : ∃ z, z = sF o0 1 (0 : Int32) := ⟨_, rfl⟩
  rw [← es1] at hP hD
  have h := nm_ap es1 h
  cases h
  exact hend _ _ _ _ hP hD hS dX5_empty_5
abbrev rmX5_append : Room := ({ frames := 0, cells := 0, slots := 0, locals := 0 } : Room)
set_option maxHeartbeats 4000000 in
set_option maxRecDepth 100000 in
theorem c_X5_append (l : Launch) (D : va_G) (cA : ClassId) (a0 : (Nat → Nat)) (o0 : Ob) (x1 : Int32) (o0_ : Ob) (h : f_X5_append o0 x1 = some o0_) : ConV l yX5_append wsX5_append rmX5_append D cA [.ref (a0 0), .int x1] (wX5 cA a0 o0) (wX5 cA a0 o0_) := by
  refine ConV.enter (cc := cX5_append) (maxL := 2) (by decide) rfl (Nat.le_of_ble_eq_true rfl) ?_
  intro p e s m args below meth c Q A hx hb hml hown hts hK hP hD hA hend ls hl
  have hS : va_S A s.heap s.heap [] := va_S.rf
  have hl : lv_has ls 2 [(0, .ref (a0 0)), (1, .int x1)] := hl
  unfold f_X5_append at h
  have lkf15 := hts (.fieldLink RX5 15 "TiedToTown$Text" "size" "I") (List.mem_of_getElem? (i := 1) rfl)
  have hinX5 : ∀ w ∈ wsX50, w ∈ wsX5_append := fun w h => List.mem_cons_of_mem _ (List.mem_append_right _ h)
  have lkf9 := hts (.fieldLink RX5 9 "TiedToTown$Text" "bytes" "[I") (List.mem_of_getElem? (i := 2) rfl)
  refine lv_aload_n hx hb dX5_append_0 rfl (lv_at hl 0 rfl) ?_
  refine va_get (D := D) (ci := 5) (v := .int (o0.1 1)) (C := RX5) (T := TX5) (N := 2) hx hb hts hinX5 hown hK.1 hP 0 rfl rfl 1 (by decide) lkf15 (fun _ h9 => h9) rfl dX5_append_1 ?_
  refine lv_aload_n hx hb dX5_append_4 rfl (lv_at hl 0 rfl) ?_
  refine va_get (D := D) (ci := 5) (v := .ref (a0 1)) (C := RX5) (T := TX5) (N := 2) hx hb hts hinX5 hown hK.1 hP 0 rfl rfl 0 (by decide) lkf9 (fun _ h9 => h9) rfl dX5_append_5 ?_
  refine alen (v := (300 : Int32)) hx hb hK hP 1 rfl (by decide) dX5_append_8 ?_
  refine lv_icmp_ge (tgt := 32) hx hb dX5_append_9 (by decide) (fun hc => ?_) (fun hc => ?_)
  · have h := if_t hc h
    cases h
    exact hend _ _ _ _ hP hD hS dX5_append_32
  · have h := if_f hc h
    refine lv_aload_n hx hb dX5_append_12 rfl (lv_at hl 0 rfl) ?_
    refine va_get (D := D) (ci := 5) (v := .ref (a0 1)) (C := RX5) (T := TX5) (N := 2) hx hb hts hinX5 hown hK.1 hP 0 rfl rfl 0 (by decide) lkf9 (fun _ h9 => h9) rfl dX5_append_13 ?_
    refine lv_aload_n hx hb dX5_append_16 rfl (lv_at hl 0 rfl) ?_
    refine va_get (D := D) (ci := 5) (v := .int (o0.1 1)) (C := RX5) (T := TX5) (N := 2) hx hb hts hinX5 hown hK.1 hP 0 rfl rfl 1 (by decide) lkf15 (fun _ h9 => h9) rfl dX5_append_17 ?_
    refine lv_iload_n hx hb dX5_append_20 rfl (lv_at hl 1 rfl) ?_
    obtain ⟨hi1, h⟩ := gd_some h
    refine iast (j := (o0.1 1).toNatClampNeg) (wn := (wX5 cA a0 (sA o0 0 (o0.1 1).toNatClampNeg x1))) hx hb hK hP hD hS 1 rfl rfl (ck_in hi1) dX5_append_21 rfl (fun H locs hP hD hS => ?_)
    obtain ⟨s2, es2⟩ : ∃ z, z = sA o0 0 (o0.1 1).toNatClampNeg x1 := ⟨_, rfl⟩
    rw [← es2] at hP hD
    have h := nm_ap es2 h
    refine lv_aload_n hx hb dX5_append_22 rfl (lv_at hl 0 rfl) ?_
    refine lv_dup hx hb dX5_append_23 rfl ?_
    refine va_get (D := D) (ci := 5) (v := .int (s2.1 1)) (C := RX5) (T := TX5) (N := 2) hx hb hts hinX5 hown hK.1 hP 0 rfl rfl 1 (by decide) lkf15 (fun _ h9 => h9) rfl dX5_append_24 ?_
    refine lv_iconst (v := (1 : Int32)) hx hb dX5_append_27 (by decide) ?_
    refine lv_iadd hx hb dX5_append_28 ?_
    refine va_put (D := D) (ci := 5) (v := .int ((s2.1 1) + (1 : Int32))) (ty := .int) (C := RX5) (T := TX5) (N := 2) hx hb hts hinX5 tyX5 tyX5_ok nmX5 hown hK.1 hP hD hS 0 rfl rfl 1 (by decide) lkf15 (fun _ h9 => h9) rfl (by decide +kernel) rfl rfl (Nat.le_of_ble_eq_true rfl) dX5_append_29 (fun H locs hP hD hS => ?_)
    have hP : va_P D vwCl (wX5 cA a0 (sF s2 1 ((s2.1 1) + (1 : Int32)))) H := hP
    have hD : va_D A (wX5 cA a0 (sF s2 1 ((s2.1 1) + (1 : Int32)))) := hD
    obtain ⟨s3, es3⟩ : ∃ z, z = sF s2 1 ((s2.1 1) + (1 : Int32)) := ⟨_, rfl⟩
    rw [← es3] at hP hD
    have h := nm_ap es3 h
    cases h
    exact hend _ _ _ _ hP hD hS dX5_append_32
abbrev rmX6_copy : Room := ({ frames := 0, cells := 0, slots := 0, locals := 0 } : Room)
set_option maxHeartbeats 4000000 in
set_option maxRecDepth 100000 in
theorem c_X6_copy (l : Launch) (D : va_G) (cA : ClassId) (a0 : (Nat → Nat)) (o0 : Ob) (a1 : (Nat → Nat)) (o1 : Ob) (o0_ : Ob) (h : f_X6_copy o0 o1 = some o0_) : ConV l yX6_copy wsX6_copy rmX6_copy D cA [.ref (a0 0), .ref (a1 0)] (wX6 cA a0 o0 ++ wX6 cA a1 o1) (wX6 cA a0 o0_ ++ wX6 cA a1 o1) := by
  refine ConV.enter (cc := cX6_copy) (maxL := 3) (by decide) rfl (Nat.le_of_ble_eq_true rfl) ?_
  intro p e s m args below meth c Q A hx hb hml hown hts hK hP hD hA hend ls hl
  have hS : va_S A s.heap s.heap [] := va_S.rf
  have hl : lv_has ls 3 [(0, .ref (a0 0)), (1, .ref (a1 0))] := hl
  unfold f_X6_copy at h
  have lkf9 := hts (.fieldLink RX6 9 "TiedToTown$Town" "first" "[I") (List.mem_of_getElem? (i := 1) rfl)
  have hinX6 : ∀ w ∈ wsX60, w ∈ wsX6_copy := fun w h => List.mem_cons_of_mem _ (List.mem_append_right _ h)
  have lkf15 := hts (.fieldLink RX6 15 "TiedToTown$Town" "second" "[I") (List.mem_of_getElem? (i := 2) rfl)
  have lkf18 := hts (.fieldLink RX6 18 "TiedToTown$Town" "people" "[I") (List.mem_of_getElem? (i := 3) rfl)
  have lkf21 := hts (.fieldLink RX6 21 "TiedToTown$Town" "through" "[I") (List.mem_of_getElem? (i := 4) rfl)
  have lkf24 := hts (.fieldLink RX6 24 "TiedToTown$Town" "due" "[I") (List.mem_of_getElem? (i := 5) rfl)
  have lkf27 := hts (.fieldLink RX6 27 "TiedToTown$Town" "kind" "[I") (List.mem_of_getElem? (i := 6) rfl)
  have lkf30 := hts (.fieldLink RX6 30 "TiedToTown$Town" "persons" "I") (List.mem_of_getElem? (i := 7) rfl)
  have lkf34 := hts (.fieldLink RX6 34 "TiedToTown$Town" "alive" "I") (List.mem_of_getElem? (i := 8) rfl)
  have lkf37 := hts (.fieldLink RX6 37 "TiedToTown$Town" "law" "I") (List.mem_of_getElem? (i := 9) rfl)
  have lkf40 := hts (.fieldLink RX6 40 "TiedToTown$Town" "knots" "I") (List.mem_of_getElem? (i := 10) rfl)
  have lkf43 := hts (.fieldLink RX6 43 "TiedToTown$Town" "tied" "I") (List.mem_of_getElem? (i := 11) rfl)
  have lkf46 := hts (.fieldLink RX6 46 "TiedToTown$Town" "day" "I") (List.mem_of_getElem? (i := 12) rfl)
  have LP2 : ∀ (n : Nat) (x2 : Int32) (o0 : Ob) (H : Heap) (locs : List Loc) (_ : va_P D vwCl (wX6 cA a0 o0 ++ wX6 cA a1 o1) H) (_ : va_D A (wX6 cA a0 o0 ++ wX6 cA a1 o1)) (_ : va_S A s.heap H locs) (ls : Array Slot) (_ : lv_has ls 3 [(0, .ref (a0 0)), (1, .ref (a1 0)), (2, .int x2)]) (res : Ob) (_ : L_X6_copy_2 o1 n x2 o0 = some res) (_ : (∀ (H : Heap) (locs : List Loc) (_ : va_P D vwCl (wX6 cA a0 res ++ wX6 cA a1 o1) H) (_ : va_D A (wX6 cA a0 res ++ wX6 cA a1 o1)) (_ : va_S A s.heap H locs) (ls : Array Slot), lv_has ls 3 [(0, .ref (a0 0)), (1, .ref (a1 0))] → W p l e rmX6_copy s m args below meth c H locs 0 0 Q (F0 m 86 ls []))), W p l e rmX6_copy s m args below meth c H locs 0 0 Q (F0 m 2 ls []) := by
    intro n
    induction n with
    | zero =>
      intro x2 o0 H locs hP hD hS ls hl res h K0
      exact absurd h (fun q : (none : Option (Ob)) = some res => by cases q)
    | succ n ih =>
      intro x2 o0 H locs hP hD hS ls hl res h K0
      have h : L_X6_copy_2_step o1 (L_X6_copy_2 o1 n) x2 o0 = some res := h
      unfold L_X6_copy_2_step at h
      refine lv_iload_n hx hb dX6_copy_2 rfl (lv_at hl 2 rfl) ?_
      refine lv_bipush (v := (8 : Int32)) hx hb dX6_copy_3 (by decide) ?_
      refine lv_icmp_ge (tgt := 86) hx hb dX6_copy_5 (by decide) (fun hc => ?_) (fun hc => ?_)
      · have h := if_t hc h
        cases h
        exact K0 _ _ hP hD hS _ (lv_sub hl [0, 1] rfl)
      · have h := if_f hc h
        refine lv_aload_n hx hb dX6_copy_8 rfl (lv_at hl 0 rfl) ?_
        refine va_get (D := D) (ci := 6) (v := .ref (a0 1)) (C := RX6) (T := TX6) (N := 12) hx hb hts hinX6 hown hK.1 hP 0 rfl rfl 0 (by decide) lkf9 (fun _ h9 => h9) rfl dX6_copy_9 ?_
        refine lv_iload_n hx hb dX6_copy_12 rfl (lv_at hl 2 rfl) ?_
        refine lv_aload_n hx hb dX6_copy_13 rfl (lv_at hl 1 rfl) ?_
        refine va_get (D := D) (ci := 6) (v := .ref (a1 1)) (C := RX6) (T := TX6) (N := 12) hx hb hts hinX6 hown hK.1 hP 7 rfl rfl 0 (by decide) lkf9 (fun _ h9 => h9) rfl dX6_copy_14 ?_
        refine lv_iload_n hx hb dX6_copy_17 rfl (lv_at hl 2 rfl) ?_
        obtain ⟨hi1, h⟩ := gd_some h
        refine iald (q0 := 0) (t0 := 0) (j := x2.toNatClampNeg) hx hb hK hP 8 rfl rfl (ck_in hi1) dX6_copy_18 ?_
        refine iast (j := x2.toNatClampNeg) (wn := (wX6 cA a0 (sA o0 0 x2.toNatClampNeg (o1.2 0 x2.toNatClampNeg)) ++ wX6 cA a1 o1)) hx hb hK hP hD hS 1 rfl rfl (ck_in hi1) dX6_copy_19 rfl (fun H locs hP hD hS => ?_)
        obtain ⟨s2, es2⟩ : ∃ z, z = sA o0 0 x2.toNatClampNeg (o1.2 0 x2.toNatClampNeg) := ⟨_, rfl⟩
        rw [← es2] at hP hD
        have h := nm_ap es2 h
        refine lv_aload_n hx hb dX6_copy_20 rfl (lv_at hl 0 rfl) ?_
        refine va_get (D := D) (ci := 6) (v := .ref (a0 2)) (C := RX6) (T := TX6) (N := 12) hx hb hts hinX6 hown hK.1 hP 0 rfl rfl 1 (by decide) lkf15 (fun _ h9 => h9) rfl dX6_copy_21 ?_
        refine lv_iload_n hx hb dX6_copy_24 rfl (lv_at hl 2 rfl) ?_
        refine lv_aload_n hx hb dX6_copy_25 rfl (lv_at hl 1 rfl) ?_
        refine va_get (D := D) (ci := 6) (v := .ref (a1 2)) (C := RX6) (T := TX6) (N := 12) hx hb hts hinX6 hown hK.1 hP 7 rfl rfl 1 (by decide) lkf15 (fun _ h9 => h9) rfl dX6_copy_26 ?_
        refine lv_iload_n hx hb dX6_copy_29 rfl (lv_at hl 2 rfl) ?_
        refine iald (q0 := 0) (t0 := 0) (j := x2.toNatClampNeg) hx hb hK hP 9 rfl rfl (ck_in hi1) dX6_copy_30 ?_
        refine iast (j := x2.toNatClampNeg) (wn := (wX6 cA a0 (sA s2 1 x2.toNatClampNeg (o1.2 1 x2.toNatClampNeg)) ++ wX6 cA a1 o1)) hx hb hK hP hD hS 2 rfl rfl (ck_in hi1) dX6_copy_31 rfl (fun H locs hP hD hS => ?_)
        obtain ⟨s3, es3⟩ : ∃ z, z = sA s2 1 x2.toNatClampNeg (o1.2 1 x2.toNatClampNeg) := ⟨_, rfl⟩
        rw [← es3] at hP hD
        have h := nm_ap es3 h
        refine lv_aload_n hx hb dX6_copy_32 rfl (lv_at hl 0 rfl) ?_
        refine va_get (D := D) (ci := 6) (v := .ref (a0 3)) (C := RX6) (T := TX6) (N := 12) hx hb hts hinX6 hown hK.1 hP 0 rfl rfl 2 (by decide) lkf18 (fun _ h9 => h9) rfl dX6_copy_33 ?_
        refine lv_iload_n hx hb dX6_copy_36 rfl (lv_at hl 2 rfl) ?_
        refine lv_aload_n hx hb dX6_copy_37 rfl (lv_at hl 1 rfl) ?_
        refine va_get (D := D) (ci := 6) (v := .ref (a1 3)) (C := RX6) (T := TX6) (N := 12) hx hb hts hinX6 hown hK.1 hP 7 rfl rfl 2 (by decide) lkf18 (fun _ h9 => h9) rfl dX6_copy_38 ?_
        refine lv_iload_n hx hb dX6_copy_41 rfl (lv_at hl 2 rfl) ?_
        refine iald (q0 := 0) (t0 := 0) (j := x2.toNatClampNeg) hx hb hK hP 10 rfl rfl (ck_in hi1) dX6_copy_42 ?_
        refine iast (j := x2.toNatClampNeg) (wn := (wX6 cA a0 (sA s3 2 x2.toNatClampNeg (o1.2 2 x2.toNatClampNeg)) ++ wX6 cA a1 o1)) hx hb hK hP hD hS 3 rfl rfl (ck_in hi1) dX6_copy_43 rfl (fun H locs hP hD hS => ?_)
        obtain ⟨s4, es4⟩ : ∃ z, z = sA s3 2 x2.toNatClampNeg (o1.2 2 x2.toNatClampNeg) := ⟨_, rfl⟩
        rw [← es4] at hP hD
        have h := nm_ap es4 h
        refine lv_aload_n hx hb dX6_copy_44 rfl (lv_at hl 0 rfl) ?_
        refine va_get (D := D) (ci := 6) (v := .ref (a0 4)) (C := RX6) (T := TX6) (N := 12) hx hb hts hinX6 hown hK.1 hP 0 rfl rfl 3 (by decide) lkf21 (fun _ h9 => h9) rfl dX6_copy_45 ?_
        refine lv_iload_n hx hb dX6_copy_48 rfl (lv_at hl 2 rfl) ?_
        refine lv_aload_n hx hb dX6_copy_49 rfl (lv_at hl 1 rfl) ?_
        refine va_get (D := D) (ci := 6) (v := .ref (a1 4)) (C := RX6) (T := TX6) (N := 12) hx hb hts hinX6 hown hK.1 hP 7 rfl rfl 3 (by decide) lkf21 (fun _ h9 => h9) rfl dX6_copy_50 ?_
        refine lv_iload_n hx hb dX6_copy_53 rfl (lv_at hl 2 rfl) ?_
        refine iald (q0 := 0) (t0 := 0) (j := x2.toNatClampNeg) hx hb hK hP 11 rfl rfl (ck_in hi1) dX6_copy_54 ?_
        refine iast (j := x2.toNatClampNeg) (wn := (wX6 cA a0 (sA s4 3 x2.toNatClampNeg (o1.2 3 x2.toNatClampNeg)) ++ wX6 cA a1 o1)) hx hb hK hP hD hS 4 rfl rfl (ck_in hi1) dX6_copy_55 rfl (fun H locs hP hD hS => ?_)
        obtain ⟨s5, es5⟩ : ∃ z, z = sA s4 3 x2.toNatClampNeg (o1.2 3 x2.toNatClampNeg) := ⟨_, rfl⟩
        rw [← es5] at hP hD
        have h := nm_ap es5 h
        refine lv_aload_n hx hb dX6_copy_56 rfl (lv_at hl 0 rfl) ?_
        refine va_get (D := D) (ci := 6) (v := .ref (a0 5)) (C := RX6) (T := TX6) (N := 12) hx hb hts hinX6 hown hK.1 hP 0 rfl rfl 4 (by decide) lkf24 (fun _ h9 => h9) rfl dX6_copy_57 ?_
        refine lv_iload_n hx hb dX6_copy_60 rfl (lv_at hl 2 rfl) ?_
        refine lv_aload_n hx hb dX6_copy_61 rfl (lv_at hl 1 rfl) ?_
        refine va_get (D := D) (ci := 6) (v := .ref (a1 5)) (C := RX6) (T := TX6) (N := 12) hx hb hts hinX6 hown hK.1 hP 7 rfl rfl 4 (by decide) lkf24 (fun _ h9 => h9) rfl dX6_copy_62 ?_
        refine lv_iload_n hx hb dX6_copy_65 rfl (lv_at hl 2 rfl) ?_
        refine iald (q0 := 0) (t0 := 0) (j := x2.toNatClampNeg) hx hb hK hP 12 rfl rfl (ck_in hi1) dX6_copy_66 ?_
        refine iast (j := x2.toNatClampNeg) (wn := (wX6 cA a0 (sA s5 4 x2.toNatClampNeg (o1.2 4 x2.toNatClampNeg)) ++ wX6 cA a1 o1)) hx hb hK hP hD hS 5 rfl rfl (ck_in hi1) dX6_copy_67 rfl (fun H locs hP hD hS => ?_)
        obtain ⟨s6, es6⟩ : ∃ z, z = sA s5 4 x2.toNatClampNeg (o1.2 4 x2.toNatClampNeg) := ⟨_, rfl⟩
        rw [← es6] at hP hD
        have h := nm_ap es6 h
        refine lv_aload_n hx hb dX6_copy_68 rfl (lv_at hl 0 rfl) ?_
        refine va_get (D := D) (ci := 6) (v := .ref (a0 6)) (C := RX6) (T := TX6) (N := 12) hx hb hts hinX6 hown hK.1 hP 0 rfl rfl 5 (by decide) lkf27 (fun _ h9 => h9) rfl dX6_copy_69 ?_
        refine lv_iload_n hx hb dX6_copy_72 rfl (lv_at hl 2 rfl) ?_
        refine lv_aload_n hx hb dX6_copy_73 rfl (lv_at hl 1 rfl) ?_
        refine va_get (D := D) (ci := 6) (v := .ref (a1 6)) (C := RX6) (T := TX6) (N := 12) hx hb hts hinX6 hown hK.1 hP 7 rfl rfl 5 (by decide) lkf27 (fun _ h9 => h9) rfl dX6_copy_74 ?_
        refine lv_iload_n hx hb dX6_copy_77 rfl (lv_at hl 2 rfl) ?_
        refine iald (q0 := 0) (t0 := 0) (j := x2.toNatClampNeg) hx hb hK hP 13 rfl rfl (ck_in hi1) dX6_copy_78 ?_
        refine iast (j := x2.toNatClampNeg) (wn := (wX6 cA a0 (sA s6 5 x2.toNatClampNeg (o1.2 5 x2.toNatClampNeg)) ++ wX6 cA a1 o1)) hx hb hK hP hD hS 6 rfl rfl (ck_in hi1) dX6_copy_79 rfl (fun H locs hP hD hS => ?_)
        obtain ⟨s7, es7⟩ : ∃ z, z = sA s6 5 x2.toNatClampNeg (o1.2 5 x2.toNatClampNeg) := ⟨_, rfl⟩
        rw [← es7] at hP hD
        have h := nm_ap es7 h
        obtain ⟨v8, ev8⟩ : ∃ y : Int32, y = x2 + (1 : Int32) := ⟨_, rfl⟩
        refine lv_iinc (v := v8) (lv' := [(2, .int v8), (0, .ref (a0 0)), (1, .ref (a1 0))]) hx hb dX6_copy_80 hl (k := 2) rfl (by rw [ev8]; rfl) (by decide) rfl (fun ls hl => ?_)
        have h := nm_ap ev8 h
        refine lv_goto (tgt := 2) hx hb dX6_copy_83 (by decide) ?_
        exact ih v8 s7 _ _ hP hD hS ls (lv_sub hl [1, 2, 0] rfl) _ h K0
  refine lv_iconst (v := (0 : Int32)) hx hb dX6_copy_0 (by decide) ?_
  refine lv_istore_n (lv' := [(2, .int (0 : Int32)), (0, .ref (a0 0)), (1, .ref (a1 0))]) hx hb dX6_copy_1 rfl hl (by decide) rfl (fun ls hl => ?_)
  obtain ⟨z1, hz1, h⟩ := bd_some h
  refine LP2 512 (0 : Int32) o0 _ _ hP hD hS ls (lv_sub hl [1, 2, 0] rfl) _ hz1 ?_
  · intro H locs hP hD hS ls hl
    refine lv_aload_n hx hb dX6_copy_86 rfl (lv_at hl 0 rfl) ?_
    refine lv_aload_n hx hb dX6_copy_87 rfl (lv_at hl 1 rfl) ?_
    refine va_get (D := D) (ci := 6) (v := .int (o1.1 6)) (C := RX6) (T := TX6) (N := 12) hx hb hts hinX6 hown hK.1 hP 7 rfl rfl 6 (by decide) lkf30 (fun _ h9 => h9) rfl dX6_copy_88 ?_
    refine va_put (D := D) (ci := 6) (v := .int (o1.1 6)) (ty := .int) (C := RX6) (T := TX6) (N := 12) hx hb hts hinX6 tyX6 tyX6_ok nmX6 hown hK.1 hP hD hS 0 rfl rfl 6 (by decide) lkf30 (fun _ h9 => h9) rfl (by decide +kernel) rfl rfl (Nat.le_of_ble_eq_true rfl) dX6_copy_91 (fun H locs hP hD hS => ?_)
    have hP : va_P D vwCl (wX6 cA a0 (sF z1 6 (o1.1 6)) ++ wX6 cA a1 o1) H := hP
    have hD : va_D A (wX6 cA a0 (sF z1 6 (o1.1 6)) ++ wX6 cA a1 o1) := hD
    obtain ⟨s2, es2⟩ : ∃ z, z = sF z1 6 (o1.1 6) := ⟨_, rfl⟩
    rw [← es2] at hP hD
    have h := nm_ap es2 h
    refine lv_aload_n hx hb dX6_copy_94 rfl (lv_at hl 0 rfl) ?_
    refine lv_aload_n hx hb dX6_copy_95 rfl (lv_at hl 1 rfl) ?_
    refine va_get (D := D) (ci := 6) (v := .int (o1.1 7)) (C := RX6) (T := TX6) (N := 12) hx hb hts hinX6 hown hK.1 hP 7 rfl rfl 7 (by decide) lkf34 (fun _ h9 => h9) rfl dX6_copy_96 ?_
    refine va_put (D := D) (ci := 6) (v := .int (o1.1 7)) (ty := .int) (C := RX6) (T := TX6) (N := 12) hx hb hts hinX6 tyX6 tyX6_ok nmX6 hown hK.1 hP hD hS 0 rfl rfl 7 (by decide) lkf34 (fun _ h9 => h9) rfl (by decide +kernel) rfl rfl (Nat.le_of_ble_eq_true rfl) dX6_copy_99 (fun H locs hP hD hS => ?_)
    have hP : va_P D vwCl (wX6 cA a0 (sF s2 7 (o1.1 7)) ++ wX6 cA a1 o1) H := hP
    have hD : va_D A (wX6 cA a0 (sF s2 7 (o1.1 7)) ++ wX6 cA a1 o1) := hD
    obtain ⟨s3, es3⟩ : ∃ z, z = sF s2 7 (o1.1 7) := ⟨_, rfl⟩
    rw [← es3] at hP hD
    have h := nm_ap es3 h
    refine lv_aload_n hx hb dX6_copy_102 rfl (lv_at hl 0 rfl) ?_
    refine lv_aload_n hx hb dX6_copy_103 rfl (lv_at hl 1 rfl) ?_
    refine va_get (D := D) (ci := 6) (v := .int (o1.1 8)) (C := RX6) (T := TX6) (N := 12) hx hb hts hinX6 hown hK.1 hP 7 rfl rfl 8 (by decide) lkf37 (fun _ h9 => h9) rfl dX6_copy_104 ?_
    refine va_put (D := D) (ci := 6) (v := .int (o1.1 8)) (ty := .int) (C := RX6) (T := TX6) (N := 12) hx hb hts hinX6 tyX6 tyX6_ok nmX6 hown hK.1 hP hD hS 0 rfl rfl 8 (by decide) lkf37 (fun _ h9 => h9) rfl (by decide +kernel) rfl rfl (Nat.le_of_ble_eq_true rfl) dX6_copy_107 (fun H locs hP hD hS => ?_)
    have hP : va_P D vwCl (wX6 cA a0 (sF s3 8 (o1.1 8)) ++ wX6 cA a1 o1) H := hP
    have hD : va_D A (wX6 cA a0 (sF s3 8 (o1.1 8)) ++ wX6 cA a1 o1) := hD
    obtain ⟨s4, es4⟩ : ∃ z, z = sF s3 8 (o1.1 8) := ⟨_, rfl⟩
    rw [← es4] at hP hD
    have h := nm_ap es4 h
    refine lv_aload_n hx hb dX6_copy_110 rfl (lv_at hl 0 rfl) ?_
    refine lv_aload_n hx hb dX6_copy_111 rfl (lv_at hl 1 rfl) ?_
    refine va_get (D := D) (ci := 6) (v := .int (o1.1 9)) (C := RX6) (T := TX6) (N := 12) hx hb hts hinX6 hown hK.1 hP 7 rfl rfl 9 (by decide) lkf40 (fun _ h9 => h9) rfl dX6_copy_112 ?_
    refine va_put (D := D) (ci := 6) (v := .int (o1.1 9)) (ty := .int) (C := RX6) (T := TX6) (N := 12) hx hb hts hinX6 tyX6 tyX6_ok nmX6 hown hK.1 hP hD hS 0 rfl rfl 9 (by decide) lkf40 (fun _ h9 => h9) rfl (by decide +kernel) rfl rfl (Nat.le_of_ble_eq_true rfl) dX6_copy_115 (fun H locs hP hD hS => ?_)
    have hP : va_P D vwCl (wX6 cA a0 (sF s4 9 (o1.1 9)) ++ wX6 cA a1 o1) H := hP
    have hD : va_D A (wX6 cA a0 (sF s4 9 (o1.1 9)) ++ wX6 cA a1 o1) := hD
    obtain ⟨s5, es5⟩ : ∃ z, z = sF s4 9 (o1.1 9) := ⟨_, rfl⟩
    rw [← es5] at hP hD
    have h := nm_ap es5 h
    refine lv_aload_n hx hb dX6_copy_118 rfl (lv_at hl 0 rfl) ?_
    refine lv_aload_n hx hb dX6_copy_119 rfl (lv_at hl 1 rfl) ?_
    refine va_get (D := D) (ci := 6) (v := .int (o1.1 10)) (C := RX6) (T := TX6) (N := 12) hx hb hts hinX6 hown hK.1 hP 7 rfl rfl 10 (by decide) lkf43 (fun _ h9 => h9) rfl dX6_copy_120 ?_
    refine va_put (D := D) (ci := 6) (v := .int (o1.1 10)) (ty := .int) (C := RX6) (T := TX6) (N := 12) hx hb hts hinX6 tyX6 tyX6_ok nmX6 hown hK.1 hP hD hS 0 rfl rfl 10 (by decide) lkf43 (fun _ h9 => h9) rfl (by decide +kernel) rfl rfl (Nat.le_of_ble_eq_true rfl) dX6_copy_123 (fun H locs hP hD hS => ?_)
    have hP : va_P D vwCl (wX6 cA a0 (sF s5 10 (o1.1 10)) ++ wX6 cA a1 o1) H := hP
    have hD : va_D A (wX6 cA a0 (sF s5 10 (o1.1 10)) ++ wX6 cA a1 o1) := hD
    obtain ⟨s6, es6⟩ : ∃ z, z = sF s5 10 (o1.1 10) := ⟨_, rfl⟩
    rw [← es6] at hP hD
    have h := nm_ap es6 h
    refine lv_aload_n hx hb dX6_copy_126 rfl (lv_at hl 0 rfl) ?_
    refine lv_aload_n hx hb dX6_copy_127 rfl (lv_at hl 1 rfl) ?_
    refine va_get (D := D) (ci := 6) (v := .int (o1.1 11)) (C := RX6) (T := TX6) (N := 12) hx hb hts hinX6 hown hK.1 hP 7 rfl rfl 11 (by decide) lkf46 (fun _ h9 => h9) rfl dX6_copy_128 ?_
    refine va_put (D := D) (ci := 6) (v := .int (o1.1 11)) (ty := .int) (C := RX6) (T := TX6) (N := 12) hx hb hts hinX6 tyX6 tyX6_ok nmX6 hown hK.1 hP hD hS 0 rfl rfl 11 (by decide) lkf46 (fun _ h9 => h9) rfl (by decide +kernel) rfl rfl (Nat.le_of_ble_eq_true rfl) dX6_copy_131 (fun H locs hP hD hS => ?_)
    have hP : va_P D vwCl (wX6 cA a0 (sF s6 11 (o1.1 11)) ++ wX6 cA a1 o1) H := hP
    have hD : va_D A (wX6 cA a0 (sF s6 11 (o1.1 11)) ++ wX6 cA a1 o1) := hD
    obtain ⟨s7, es7⟩ : ∃ z, z = sF s6 11 (o1.1 11) := ⟨_, rfl⟩
    rw [← es7] at hP hD
    have h := nm_ap es7 h
    cases h
    exact hend _ _ _ _ hP hD hS dX6_copy_134
abbrev rmX6_ofKind : Room := ({ frames := 1, cells := 0, slots := 0, locals := 20 } : Room)
set_option maxHeartbeats 4000000 in
set_option maxRecDepth 100000 in
theorem c_X6_ofKind (l : Launch) (D : va_G) (cA : ClassId) (a0 : (Nat → Nat)) (o0 : Ob) (x1 : Int32) (r : Int32) (h : f_X6_ofKind o0 x1 = some r) : ConR l yX6_ofKind wsX6_ofKind rmX6_ofKind D cA [.ref (a0 0), .int x1] (wX6 cA a0 o0) r := by
  refine ConR.enter (cc := cX6_ofKind) (maxL := 4) (by decide) rfl (Nat.le_of_ble_eq_true rfl) ?_
  intro p e s m args below meth c Q hx hb hml hown hts hK hP  hend ls hl
  have hl : lv_has ls 4 [(0, .ref (a0 0)), (1, .int x1)] := hl
  unfold f_X6_ofKind at h
  have lkf40 := hts (.fieldLink RX6 40 "TiedToTown$Town" "knots" "I") (List.mem_of_getElem? (i := 1) rfl)
  have hinX6 : ∀ w ∈ wsX60, w ∈ wsX6_ofKind := fun w h => List.mem_cons_of_mem _ (List.mem_append_right _ h)
  have lkf27 := hts (.fieldLink RX6 27 "TiedToTown$Town" "kind" "[I") (List.mem_of_getElem? (i := 2) rfl)
  have LP4 : ∀ (x1 : Int32) (n : Nat) (x2 : Int32) (x3 : Int32) (ls : Array Slot) (_ : lv_has ls 4 [(0, .ref (a0 0)), (1, .int x1), (2, .int x2), (3, .int x3)]) (res : Int32) (_ : L_X6_ofKind_4 x1 o0 n x2 x3 = some res) (_ : (∀ (ls : Array Slot), lv_has ls 4 [(2, .int res)] → W p l e rmX6_ofKind s m args below meth c s.heap [] 0 0 Q (F0 m 41 ls []))), W p l e rmX6_ofKind s m args below meth c s.heap [] 0 0 Q (F0 m 4 ls []) := by
    intro x1 n
    induction n with
    | zero =>
      intro x2 x3 ls hl res h K0
      exact absurd h (fun q : (none : Option (Int32)) = some res => by cases q)
    | succ n ih =>
      intro x2 x3 ls hl res h K0
      have h : L_X6_ofKind_4_step x1 o0 (L_X6_ofKind_4 x1 o0 n) x2 x3 = some res := h
      unfold L_X6_ofKind_4_step at h
      refine lv_iload_n hx hb dX6_ofKind_4 rfl (lv_at hl 3 rfl) ?_
      refine lv_bipush (v := (8 : Int32)) hx hb dX6_ofKind_5 (by decide) ?_
      refine lv_icmp_ge (tgt := 41) hx hb dX6_ofKind_7 (by decide) (fun hc => ?_) (fun hc => ?_)
      · have h := if_t hc h
        cases h
        exact K0 _ (lv_sub hl [2] rfl)
      · have h := if_f hc h
        refine lv_iload_n hx hb dX6_ofKind_10 rfl (lv_at hl 3 rfl) ?_
        refine lv_aload_n hx hb dX6_ofKind_11 rfl (lv_at hl 0 rfl) ?_
        refine va_get (D := D) (ci := 6) (v := .int (o0.1 9)) (C := RX6) (T := TX6) (N := 12) hx hb hts hinX6 hown hK.1 hP 0 rfl rfl 9 (by decide) lkf40 (fun _ h9 => h9) rfl dX6_ofKind_12 ?_
        refine lv_icmp_ge (tgt := 35) hx hb dX6_ofKind_15 (by decide) (fun hc => ?_) (fun hc => ?_)
        · have h := if_t hc h
          obtain ⟨v1, ev1⟩ : ∃ y : Int32, y = x3 + (1 : Int32) := ⟨_, rfl⟩
          refine lv_iinc (v := v1) (lv' := [(3, .int v1), (0, .ref (a0 0)), (1, .int x1), (2, .int x2)]) hx hb dX6_ofKind_35 hl (k := 3) rfl (by rw [ev1]; rfl) (by decide) rfl (fun ls hl => ?_)
          have h := nm_ap ev1 h
          refine lv_goto (tgt := 4) hx hb dX6_ofKind_38 (by decide) ?_
          exact ih x2 v1 ls (lv_sub hl [1, 2, 3, 0] rfl) _ h K0
        · have h := if_f hc h
          refine lv_aload_n hx hb dX6_ofKind_18 rfl (lv_at hl 0 rfl) ?_
          refine va_get (D := D) (ci := 6) (v := .ref (a0 6)) (C := RX6) (T := TX6) (N := 12) hx hb hts hinX6 hown hK.1 hP 0 rfl rfl 5 (by decide) lkf27 (fun _ h9 => h9) rfl dX6_ofKind_19 ?_
          refine lv_iload_n hx hb dX6_ofKind_22 rfl (lv_at hl 3 rfl) ?_
          obtain ⟨hi2, h⟩ := gd_some h
          refine iald (q0 := 0) (t0 := 0) (j := x3.toNatClampNeg) hx hb hK hP 6 rfl rfl (ck_in hi2) dX6_ofKind_23 ?_
          refine lv_iload_n hx hb dX6_ofKind_24 rfl (lv_at hl 1 rfl) ?_
          refine lv_icmp_ne (tgt := 35) hx hb dX6_ofKind_25 (by decide) (fun hc => ?_) (fun hc => ?_)
          · have h := if_f hc h
            obtain ⟨v3, ev3⟩ : ∃ y : Int32, y = x3 + (1 : Int32) := ⟨_, rfl⟩
            refine lv_iinc (v := v3) (lv' := [(3, .int v3), (0, .ref (a0 0)), (1, .int x1), (2, .int x2)]) hx hb dX6_ofKind_35 hl (k := 3) rfl (by rw [ev3]; rfl) (by decide) rfl (fun ls hl => ?_)
            have h := nm_ap ev3 h
            refine lv_goto (tgt := 4) hx hb dX6_ofKind_38 (by decide) ?_
            exact ih x2 v3 ls (lv_sub hl [1, 2, 3, 0] rfl) _ h K0
          · have h := if_t hc h
            refine lv_iload_n hx hb dX6_ofKind_28 rfl (lv_at hl 2 rfl) ?_
            refine lv_iload_n hx hb dX6_ofKind_29 rfl (lv_at hl 3 rfl) ?_
            obtain ⟨z4, hz4, h⟩ := bd_some h
            refine cR_SN (As := [.int x3]) (rest := [.int x2]) ⟨hx, hb, hml, hown, hts⟩ (c_X7_bit l D cA  x3 z4 hz4) ⟨va_cnB 1 hts gX6_ofKind_X7_bit_n49 rfl rfl rfl (hK.2 _ (List.mem_of_getElem? (i := 27) rfl) : va_Nw (Cond.methodLinkNest RX6 49 yX7_bit "TiedToTown") s) (hts (.initialized RX7) (List.mem_of_getElem? (i := 4) rfl)) hd_X7_bit.2 ⟨(Nat.le_of_ble_eq_true rfl), (Nat.le_of_ble_eq_true rfl)⟩, hts (.static yX7_bit) (List.mem_of_getElem? (i := 3) rfl), trivial⟩ hK hP [] rfl rfl hl.1 rfl (Nat.le_of_ble_eq_true rfl) dX6_ofKind_30 ⟨(Nat.le_of_ble_eq_true rfl), (Nat.le_of_ble_eq_true rfl)⟩ ?_
            refine lv_ior hx hb dX6_ofKind_33 ?_
            refine lv_topi (fun v5 ev5 => ?_)
            have h := nm_ap ev5 h
            refine lv_istore_n (lv' := [(2, .int v5), (0, .ref (a0 0)), (1, .int x1), (3, .int x3)]) hx hb dX6_ofKind_34 rfl hl (by decide) rfl (fun ls hl => ?_)
            obtain ⟨v6, ev6⟩ : ∃ y : Int32, y = x3 + (1 : Int32) := ⟨_, rfl⟩
            refine lv_iinc (v := v6) (lv' := [(3, .int v6), (2, .int v5), (0, .ref (a0 0)), (1, .int x1)]) hx hb dX6_ofKind_35 hl (k := 3) rfl (by rw [ev6]; rfl) (by decide) rfl (fun ls hl => ?_)
            have h := nm_ap ev6 h
            refine lv_goto (tgt := 4) hx hb dX6_ofKind_38 (by decide) ?_
            exact ih v5 v6 ls (lv_sub hl [2, 3, 1, 0] rfl) _ h K0
  refine lv_iconst (v := (0 : Int32)) hx hb dX6_ofKind_0 (by decide) ?_
  refine lv_istore_n (lv' := [(2, .int (0 : Int32)), (0, .ref (a0 0)), (1, .int x1)]) hx hb dX6_ofKind_1 rfl hl (by decide) rfl (fun ls hl => ?_)
  refine lv_iconst (v := (0 : Int32)) hx hb dX6_ofKind_2 (by decide) ?_
  refine lv_istore_n (lv' := [(3, .int (0 : Int32)), (2, .int (0 : Int32)), (0, .ref (a0 0)), (1, .int x1)]) hx hb dX6_ofKind_3 rfl hl (by decide) rfl (fun ls hl => ?_)
  obtain ⟨z1, hz1, h⟩ := bd_some h
  refine LP4 x1 512 (0 : Int32) (0 : Int32) ls (lv_sub hl [2, 3, 1, 0] rfl) _ hz1 ?_
  · intro ls hl
    refine lv_iload_n hx hb dX6_ofKind_41 rfl (lv_at hl 0 rfl) ?_
    cases h
    exact hend _ _ dX6_ofKind_42
abbrev rmX6_ofPerson : Room := ({ frames := 1, cells := 0, slots := 0, locals := 21 } : Room)
set_option maxHeartbeats 4000000 in
set_option maxRecDepth 100000 in
theorem c_X6_ofPerson (l : Launch) (D : va_G) (cA : ClassId) (a0 : (Nat → Nat)) (o0 : Ob) (x1 : Int32) (r : Int32) (h : f_X6_ofPerson o0 x1 = some r) : ConR l yX6_ofPerson wsX6_ofPerson rmX6_ofPerson D cA [.ref (a0 0), .int x1] (wX6 cA a0 o0) r := by
  refine ConR.enter (cc := cX6_ofPerson) (maxL := 4) (by decide) rfl (Nat.le_of_ble_eq_true rfl) ?_
  intro p e s m args below meth c Q hx hb hml hown hts hK hP  hend ls hl
  have hl : lv_has ls 4 [(0, .ref (a0 0)), (1, .int x1)] := hl
  unfold f_X6_ofPerson at h
  have lkf43 := hts (.fieldLink RX6 43 "TiedToTown$Town" "tied" "I") (List.mem_of_getElem? (i := 1) rfl)
  have hinX6 : ∀ w ∈ wsX60, w ∈ wsX6_ofPerson := fun w h => List.mem_cons_of_mem _ (List.mem_append_right _ h)
  have lkf18 := hts (.fieldLink RX6 18 "TiedToTown$Town" "people" "[I") (List.mem_of_getElem? (i := 2) rfl)
  have LP4 : ∀ (x1 : Int32) (n : Nat) (x2 : Int32) (x3 : Int32) (ls : Array Slot) (_ : lv_has ls 4 [(0, .ref (a0 0)), (1, .int x1), (2, .int x2), (3, .int x3)]) (res : Int32) (_ : L_X6_ofPerson_4 x1 o0 n x2 x3 = some res) (_ : (∀ (ls : Array Slot), lv_has ls 4 [(2, .int res)] → W p l e rmX6_ofPerson s m args below meth c s.heap [] 0 0 Q (F0 m 47 ls []))), W p l e rmX6_ofPerson s m args below meth c s.heap [] 0 0 Q (F0 m 4 ls []) := by
    intro x1 n
    induction n with
    | zero =>
      intro x2 x3 ls hl res h K0
      exact absurd h (fun q : (none : Option (Int32)) = some res => by cases q)
    | succ n ih =>
      intro x2 x3 ls hl res h K0
      have h : L_X6_ofPerson_4_step x1 o0 (L_X6_ofPerson_4 x1 o0 n) x2 x3 = some res := h
      unfold L_X6_ofPerson_4_step at h
      refine lv_iload_n hx hb dX6_ofPerson_4 rfl (lv_at hl 3 rfl) ?_
      refine lv_bipush (v := (8 : Int32)) hx hb dX6_ofPerson_5 (by decide) ?_
      refine lv_icmp_ge (tgt := 47) hx hb dX6_ofPerson_7 (by decide) (fun hc => ?_) (fun hc => ?_)
      · have h := if_t hc h
        cases h
        exact K0 _ (lv_sub hl [2] rfl)
      · have h := if_f hc h
        refine lv_aload_n hx hb dX6_ofPerson_10 rfl (lv_at hl 0 rfl) ?_
        refine va_get (D := D) (ci := 6) (v := .int (o0.1 10)) (C := RX6) (T := TX6) (N := 12) hx hb hts hinX6 hown hK.1 hP 0 rfl rfl 10 (by decide) lkf43 (fun _ h9 => h9) rfl dX6_ofPerson_11 ?_
        refine lv_iload_n hx hb dX6_ofPerson_14 rfl (lv_at hl 3 rfl) ?_
        obtain ⟨z1, hz1, h⟩ := bd_some h
        refine cR_SN (As := [.int (o0.1 10), .int x3]) (rest := []) ⟨hx, hb, hml, hown, hts⟩ (c_X7_has l D cA  (o0.1 10) x3 z1 hz1) ⟨va_cnB 2 hts gX6_ofPerson_X7_has_n64 rfl rfl rfl (hK.2 _ (List.mem_of_getElem? (i := 28) rfl) : va_Nw (Cond.methodLinkNest RX6 64 yX7_has "TiedToTown") s) (hts (.initialized RX7) (List.mem_of_getElem? (i := 4) rfl)) hd_X7_has.2 ⟨(Nat.le_of_ble_eq_true rfl), (Nat.le_of_ble_eq_true rfl)⟩, hts (.static yX7_has) (List.mem_of_getElem? (i := 3) rfl), trivial⟩ hK hP [] rfl rfl hl.1 rfl (Nat.le_of_ble_eq_true rfl) dX6_ofPerson_15 ⟨(Nat.le_of_ble_eq_true rfl), (Nat.le_of_ble_eq_true rfl)⟩ ?_
        refine lv_if_eq (tgt := 41) hx hb dX6_ofPerson_18 (by decide) (fun hc => ?_) (fun hc => ?_)
        · have h := if_t hc h
          obtain ⟨v2, ev2⟩ : ∃ y : Int32, y = x3 + (1 : Int32) := ⟨_, rfl⟩
          refine lv_iinc (v := v2) (lv' := [(3, .int v2), (0, .ref (a0 0)), (1, .int x1), (2, .int x2)]) hx hb dX6_ofPerson_41 hl (k := 3) rfl (by rw [ev2]; rfl) (by decide) rfl (fun ls hl => ?_)
          have h := nm_ap ev2 h
          refine lv_goto (tgt := 4) hx hb dX6_ofPerson_44 (by decide) ?_
          exact ih x2 v2 ls (lv_sub hl [1, 2, 3, 0] rfl) _ h K0
        · have h := if_f hc h
          refine lv_aload_n hx hb dX6_ofPerson_21 rfl (lv_at hl 0 rfl) ?_
          refine va_get (D := D) (ci := 6) (v := .ref (a0 3)) (C := RX6) (T := TX6) (N := 12) hx hb hts hinX6 hown hK.1 hP 0 rfl rfl 2 (by decide) lkf18 (fun _ h9 => h9) rfl dX6_ofPerson_22 ?_
          refine lv_iload_n hx hb dX6_ofPerson_25 rfl (lv_at hl 3 rfl) ?_
          obtain ⟨hi3, h⟩ := gd_some h
          refine iald (q0 := 0) (t0 := 0) (j := x3.toNatClampNeg) hx hb hK hP 3 rfl rfl (ck_in hi3) dX6_ofPerson_26 ?_
          refine lv_iload_n hx hb dX6_ofPerson_27 rfl (lv_at hl 1 rfl) ?_
          obtain ⟨z4, hz4, h⟩ := bd_some h
          refine cR_SN (As := [.int (o0.2 2 x3.toNatClampNeg), .int x1]) (rest := []) ⟨hx, hb, hml, hown, hts⟩ (c_X7_has l D cA  (o0.2 2 x3.toNatClampNeg) x1 z4 hz4) ⟨va_cnB 2 hts gX6_ofPerson_X7_has_n64 rfl rfl rfl (hK.2 _ (List.mem_of_getElem? (i := 28) rfl) : va_Nw (Cond.methodLinkNest RX6 64 yX7_has "TiedToTown") s) (hts (.initialized RX7) (List.mem_of_getElem? (i := 4) rfl)) hd_X7_has.2 ⟨(Nat.le_of_ble_eq_true rfl), (Nat.le_of_ble_eq_true rfl)⟩, hts (.static yX7_has) (List.mem_of_getElem? (i := 3) rfl), trivial⟩ hK hP [] rfl rfl hl.1 rfl (Nat.le_of_ble_eq_true rfl) dX6_ofPerson_28 ⟨(Nat.le_of_ble_eq_true rfl), (Nat.le_of_ble_eq_true rfl)⟩ ?_
          refine lv_if_eq (tgt := 41) hx hb dX6_ofPerson_31 (by decide) (fun hc => ?_) (fun hc => ?_)
          · have h := if_t hc h
            obtain ⟨v5, ev5⟩ : ∃ y : Int32, y = x3 + (1 : Int32) := ⟨_, rfl⟩
            refine lv_iinc (v := v5) (lv' := [(3, .int v5), (0, .ref (a0 0)), (1, .int x1), (2, .int x2)]) hx hb dX6_ofPerson_41 hl (k := 3) rfl (by rw [ev5]; rfl) (by decide) rfl (fun ls hl => ?_)
            have h := nm_ap ev5 h
            refine lv_goto (tgt := 4) hx hb dX6_ofPerson_44 (by decide) ?_
            exact ih x2 v5 ls (lv_sub hl [1, 2, 3, 0] rfl) _ h K0
          · have h := if_f hc h
            refine lv_iload_n hx hb dX6_ofPerson_34 rfl (lv_at hl 2 rfl) ?_
            refine lv_iload_n hx hb dX6_ofPerson_35 rfl (lv_at hl 3 rfl) ?_
            obtain ⟨z6, hz6, h⟩ := bd_some h
            refine cR_SN (As := [.int x3]) (rest := [.int x2]) ⟨hx, hb, hml, hown, hts⟩ (c_X7_bit l D cA  x3 z6 hz6) ⟨va_cnB 1 hts gX6_ofPerson_X7_bit_n49 rfl rfl rfl (hK.2 _ (List.mem_of_getElem? (i := 27) rfl) : va_Nw (Cond.methodLinkNest RX6 49 yX7_bit "TiedToTown") s) (hts (.initialized RX7) (List.mem_of_getElem? (i := 4) rfl)) hd_X7_bit.2 ⟨(Nat.le_of_ble_eq_true rfl), (Nat.le_of_ble_eq_true rfl)⟩, hts (.static yX7_bit) (List.mem_of_getElem? (i := 6) rfl), trivial⟩ hK hP [] rfl rfl hl.1 rfl (Nat.le_of_ble_eq_true rfl) dX6_ofPerson_36 ⟨(Nat.le_of_ble_eq_true rfl), (Nat.le_of_ble_eq_true rfl)⟩ ?_
            refine lv_ior hx hb dX6_ofPerson_39 ?_
            refine lv_topi (fun v7 ev7 => ?_)
            have h := nm_ap ev7 h
            refine lv_istore_n (lv' := [(2, .int v7), (0, .ref (a0 0)), (1, .int x1), (3, .int x3)]) hx hb dX6_ofPerson_40 rfl hl (by decide) rfl (fun ls hl => ?_)
            obtain ⟨v8, ev8⟩ : ∃ y : Int32, y = x3 + (1 : Int32) := ⟨_, rfl⟩
            refine lv_iinc (v := v8) (lv' := [(3, .int v8), (2, .int v7), (0, .ref (a0 0)), (1, .int x1)]) hx hb dX6_ofPerson_41 hl (k := 3) rfl (by rw [ev8]; rfl) (by decide) rfl (fun ls hl => ?_)
            have h := nm_ap ev8 h
            refine lv_goto (tgt := 4) hx hb dX6_ofPerson_44 (by decide) ?_
            exact ih v7 v8 ls (lv_sub hl [2, 3, 1, 0] rfl) _ h K0
  refine lv_iconst (v := (0 : Int32)) hx hb dX6_ofPerson_0 (by decide) ?_
  refine lv_istore_n (lv' := [(2, .int (0 : Int32)), (0, .ref (a0 0)), (1, .int x1)]) hx hb dX6_ofPerson_1 rfl hl (by decide) rfl (fun ls hl => ?_)
  refine lv_iconst (v := (0 : Int32)) hx hb dX6_ofPerson_2 (by decide) ?_
  refine lv_istore_n (lv' := [(3, .int (0 : Int32)), (2, .int (0 : Int32)), (0, .ref (a0 0)), (1, .int x1)]) hx hb dX6_ofPerson_3 rfl hl (by decide) rfl (fun ls hl => ?_)
  obtain ⟨z1, hz1, h⟩ := bd_some h
  refine LP4 x1 512 (0 : Int32) (0 : Int32) ls (lv_sub hl [2, 3, 1, 0] rfl) _ hz1 ?_
  · intro ls hl
    refine lv_iload_n hx hb dX6_ofPerson_47 rfl (lv_at hl 0 rfl) ?_
    cases h
    exact hend _ _ dX6_ofPerson_48
abbrev rmX6_dueToday : Room := ({ frames := 1, cells := 0, slots := 0, locals := 21 } : Room)
set_option maxHeartbeats 4000000 in
set_option maxRecDepth 100000 in
theorem c_X6_dueToday (l : Launch) (D : va_G) (cA : ClassId) (a0 : (Nat → Nat)) (o0 : Ob) (r : Int32) (h : f_X6_dueToday o0 = some r) : ConR l yX6_dueToday wsX6_dueToday rmX6_dueToday D cA [.ref (a0 0)] (wX6 cA a0 o0) r := by
  refine ConR.enter (cc := cX6_dueToday) (maxL := 3) (by decide) rfl (Nat.le_of_ble_eq_true rfl) ?_
  intro p e s m args below meth c Q hx hb hml hown hts hK hP  hend ls hl
  have hl : lv_has ls 3 [(0, .ref (a0 0))] := hl
  unfold f_X6_dueToday at h
  have lkf43 := hts (.fieldLink RX6 43 "TiedToTown$Town" "tied" "I") (List.mem_of_getElem? (i := 1) rfl)
  have hinX6 : ∀ w ∈ wsX60, w ∈ wsX6_dueToday := fun w h => List.mem_cons_of_mem _ (List.mem_append_right _ h)
  have lkf24 := hts (.fieldLink RX6 24 "TiedToTown$Town" "due" "[I") (List.mem_of_getElem? (i := 2) rfl)
  have lkf46 := hts (.fieldLink RX6 46 "TiedToTown$Town" "day" "I") (List.mem_of_getElem? (i := 3) rfl)
  have LP4 : ∀ (n : Nat) (x1 : Int32) (x2 : Int32) (ls : Array Slot) (_ : lv_has ls 3 [(0, .ref (a0 0)), (1, .int x1), (2, .int x2)]) (res : Int32) (_ : L_X6_dueToday_4 o0 n x1 x2 = some res) (_ : (∀ (ls : Array Slot), lv_has ls 3 [(1, .int res)] → W p l e rmX6_dueToday s m args below meth c s.heap [] 0 0 Q (F0 m 47 ls []))), W p l e rmX6_dueToday s m args below meth c s.heap [] 0 0 Q (F0 m 4 ls []) := by
    intro n
    induction n with
    | zero =>
      intro x1 x2 ls hl res h K0
      exact absurd h (fun q : (none : Option (Int32)) = some res => by cases q)
    | succ n ih =>
      intro x1 x2 ls hl res h K0
      have h : L_X6_dueToday_4_step o0 (L_X6_dueToday_4 o0 n) x1 x2 = some res := h
      unfold L_X6_dueToday_4_step at h
      refine lv_iload_n hx hb dX6_dueToday_4 rfl (lv_at hl 2 rfl) ?_
      refine lv_bipush (v := (8 : Int32)) hx hb dX6_dueToday_5 (by decide) ?_
      refine lv_icmp_ge (tgt := 47) hx hb dX6_dueToday_7 (by decide) (fun hc => ?_) (fun hc => ?_)
      · have h := if_t hc h
        cases h
        exact K0 _ (lv_sub hl [1] rfl)
      · have h := if_f hc h
        refine lv_aload_n hx hb dX6_dueToday_10 rfl (lv_at hl 0 rfl) ?_
        refine va_get (D := D) (ci := 6) (v := .int (o0.1 10)) (C := RX6) (T := TX6) (N := 12) hx hb hts hinX6 hown hK.1 hP 0 rfl rfl 10 (by decide) lkf43 (fun _ h9 => h9) rfl dX6_dueToday_11 ?_
        refine lv_iload_n hx hb dX6_dueToday_14 rfl (lv_at hl 2 rfl) ?_
        obtain ⟨z1, hz1, h⟩ := bd_some h
        refine cR_SN (As := [.int (o0.1 10), .int x2]) (rest := []) ⟨hx, hb, hml, hown, hts⟩ (c_X7_has l D cA  (o0.1 10) x2 z1 hz1) ⟨va_cnB 2 hts gX6_dueToday_X7_has_n64 rfl rfl rfl (hK.2 _ (List.mem_of_getElem? (i := 28) rfl) : va_Nw (Cond.methodLinkNest RX6 64 yX7_has "TiedToTown") s) (hts (.initialized RX7) (List.mem_of_getElem? (i := 5) rfl)) hd_X7_has.2 ⟨(Nat.le_of_ble_eq_true rfl), (Nat.le_of_ble_eq_true rfl)⟩, hts (.static yX7_has) (List.mem_of_getElem? (i := 4) rfl), trivial⟩ hK hP [] rfl rfl hl.1 rfl (Nat.le_of_ble_eq_true rfl) dX6_dueToday_15 ⟨(Nat.le_of_ble_eq_true rfl), (Nat.le_of_ble_eq_true rfl)⟩ ?_
        refine lv_if_eq (tgt := 41) hx hb dX6_dueToday_18 (by decide) (fun hc => ?_) (fun hc => ?_)
        · have h := if_t hc h
          obtain ⟨v2, ev2⟩ : ∃ y : Int32, y = x2 + (1 : Int32) := ⟨_, rfl⟩
          refine lv_iinc (v := v2) (lv' := [(2, .int v2), (0, .ref (a0 0)), (1, .int x1)]) hx hb dX6_dueToday_41 hl (k := 2) rfl (by rw [ev2]; rfl) (by decide) rfl (fun ls hl => ?_)
          have h := nm_ap ev2 h
          refine lv_goto (tgt := 4) hx hb dX6_dueToday_44 (by decide) ?_
          exact ih x1 v2 ls (lv_sub hl [1, 2, 0] rfl) _ h K0
        · have h := if_f hc h
          refine lv_aload_n hx hb dX6_dueToday_21 rfl (lv_at hl 0 rfl) ?_
          refine va_get (D := D) (ci := 6) (v := .ref (a0 5)) (C := RX6) (T := TX6) (N := 12) hx hb hts hinX6 hown hK.1 hP 0 rfl rfl 4 (by decide) lkf24 (fun _ h9 => h9) rfl dX6_dueToday_22 ?_
          refine lv_iload_n hx hb dX6_dueToday_25 rfl (lv_at hl 2 rfl) ?_
          obtain ⟨hi3, h⟩ := gd_some h
          refine iald (q0 := 0) (t0 := 0) (j := x2.toNatClampNeg) hx hb hK hP 5 rfl rfl (ck_in hi3) dX6_dueToday_26 ?_
          refine lv_aload_n hx hb dX6_dueToday_27 rfl (lv_at hl 0 rfl) ?_
          refine va_get (D := D) (ci := 6) (v := .int (o0.1 11)) (C := RX6) (T := TX6) (N := 12) hx hb hts hinX6 hown hK.1 hP 0 rfl rfl 11 (by decide) lkf46 (fun _ h9 => h9) rfl dX6_dueToday_28 ?_
          refine lv_icmp_gt (tgt := 41) hx hb dX6_dueToday_31 (by decide) (fun hc => ?_) (fun hc => ?_)
          · have h := if_t hc h
            obtain ⟨v4, ev4⟩ : ∃ y : Int32, y = x2 + (1 : Int32) := ⟨_, rfl⟩
            refine lv_iinc (v := v4) (lv' := [(2, .int v4), (0, .ref (a0 0)), (1, .int x1)]) hx hb dX6_dueToday_41 hl (k := 2) rfl (by rw [ev4]; rfl) (by decide) rfl (fun ls hl => ?_)
            have h := nm_ap ev4 h
            refine lv_goto (tgt := 4) hx hb dX6_dueToday_44 (by decide) ?_
            exact ih x1 v4 ls (lv_sub hl [1, 2, 0] rfl) _ h K0
          · have h := if_f hc h
            refine lv_iload_n hx hb dX6_dueToday_34 rfl (lv_at hl 1 rfl) ?_
            refine lv_iload_n hx hb dX6_dueToday_35 rfl (lv_at hl 2 rfl) ?_
            obtain ⟨z5, hz5, h⟩ := bd_some h
            refine cR_SN (As := [.int x2]) (rest := [.int x1]) ⟨hx, hb, hml, hown, hts⟩ (c_X7_bit l D cA  x2 z5 hz5) ⟨va_cnB 1 hts gX6_dueToday_X7_bit_n49 rfl rfl rfl (hK.2 _ (List.mem_of_getElem? (i := 27) rfl) : va_Nw (Cond.methodLinkNest RX6 49 yX7_bit "TiedToTown") s) (hts (.initialized RX7) (List.mem_of_getElem? (i := 5) rfl)) hd_X7_bit.2 ⟨(Nat.le_of_ble_eq_true rfl), (Nat.le_of_ble_eq_true rfl)⟩, hts (.static yX7_bit) (List.mem_of_getElem? (i := 7) rfl), trivial⟩ hK hP [] rfl rfl hl.1 rfl (Nat.le_of_ble_eq_true rfl) dX6_dueToday_36 ⟨(Nat.le_of_ble_eq_true rfl), (Nat.le_of_ble_eq_true rfl)⟩ ?_
            refine lv_ior hx hb dX6_dueToday_39 ?_
            refine lv_topi (fun v6 ev6 => ?_)
            have h := nm_ap ev6 h
            refine lv_istore_n (lv' := [(1, .int v6), (0, .ref (a0 0)), (2, .int x2)]) hx hb dX6_dueToday_40 rfl hl (by decide) rfl (fun ls hl => ?_)
            obtain ⟨v7, ev7⟩ : ∃ y : Int32, y = x2 + (1 : Int32) := ⟨_, rfl⟩
            refine lv_iinc (v := v7) (lv' := [(2, .int v7), (1, .int v6), (0, .ref (a0 0))]) hx hb dX6_dueToday_41 hl (k := 2) rfl (by rw [ev7]; rfl) (by decide) rfl (fun ls hl => ?_)
            have h := nm_ap ev7 h
            refine lv_goto (tgt := 4) hx hb dX6_dueToday_44 (by decide) ?_
            exact ih v6 v7 ls (lv_sub hl [2, 1, 0] rfl) _ h K0
  refine lv_iconst (v := (0 : Int32)) hx hb dX6_dueToday_0 (by decide) ?_
  refine lv_istore_n (lv' := [(1, .int (0 : Int32)), (0, .ref (a0 0))]) hx hb dX6_dueToday_1 rfl hl (by decide) rfl (fun ls hl => ?_)
  refine lv_iconst (v := (0 : Int32)) hx hb dX6_dueToday_2 (by decide) ?_
  refine lv_istore_n (lv' := [(2, .int (0 : Int32)), (1, .int (0 : Int32)), (0, .ref (a0 0))]) hx hb dX6_dueToday_3 rfl hl (by decide) rfl (fun ls hl => ?_)
  obtain ⟨z1, hz1, h⟩ := bd_some h
  refine LP4 512 (0 : Int32) (0 : Int32) ls (lv_sub hl [2, 1, 0] rfl) _ hz1 ?_
  · intro ls hl
    refine lv_iload_n hx hb dX6_dueToday_47 rfl (lv_at hl 0 rfl) ?_
    cases h
    exact hend _ _ dX6_dueToday_48
abbrev rmX7_asNumber : Room := ({ frames := 0, cells := 0, slots := 0, locals := 0 } : Room)
set_option maxHeartbeats 4000000 in
set_option maxRecDepth 100000 in
theorem c_X7_asNumber (l : Launch) (D : va_G) (cA : ClassId) (x0 : Int32) (r : Int32) (h : f_X7_asNumber x0 = some r) : ConR l yX7_asNumber wsX7_asNumber rmX7_asNumber D cA [.int x0] ([] : va_W) r := by
  refine ConR.enter (cc := cX7_asNumber) (maxL := 1) (by decide) rfl (Nat.le_of_ble_eq_true rfl) ?_
  intro p e s m args below meth c Q hx hb hml hown hts hK hP  hend ls hl
  have hl : lv_has ls 1 [(0, .int x0)] := hl
  unfold f_X7_asNumber at h
  refine lv_iload_n hx hb dX7_asNumber_0 rfl (lv_at hl 0 rfl) ?_
  refine lv_if_eq (tgt := 8) hx hb dX7_asNumber_1 (by decide) (fun hc => ?_) (fun hc => ?_)
  · have h := if_t hc h
    refine lv_iconst (v := (0 : Int32)) hx hb dX7_asNumber_8 (by decide) ?_
    cases h
    exact hend _ _ dX7_asNumber_9
  · have h := if_f hc h
    refine lv_iconst (v := (1 : Int32)) hx hb dX7_asNumber_4 (by decide) ?_
    refine lv_goto (tgt := 9) hx hb dX7_asNumber_5 (by decide) ?_
    cases h
    exact hend _ _ dX7_asNumber_9
abbrev rmX7_isRope : Room := ({ frames := 0, cells := 0, slots := 0, locals := 0 } : Room)
set_option maxHeartbeats 4000000 in
set_option maxRecDepth 100000 in
theorem c_X7_isRope (l : Launch) (D : va_G) (cA : ClassId) (x0 : Int32) (r : Int32) (h : f_X7_isRope x0 = some r) : ConR l yX7_isRope wsX7_isRope rmX7_isRope D cA [.int x0] ([] : va_W) r := by
  refine ConZ.enter (cc := cX7_isRope) (maxL := 1) (by decide) rfl (Nat.le_of_ble_eq_true rfl) ?_
  intro p e s m args below meth c Q hx hb hml hown hts hK hP  hend ls hl
  have hl : lv_has ls 1 [(0, .int x0)] := hl
  unfold f_X7_isRope at h
  refine lv_iload_n hx hb dX7_isRope_0 rfl (lv_at hl 0 rfl) ?_
  refine lv_if_eq (tgt := 9) hx hb dX7_isRope_1 (by decide) (fun hc => ?_) (fun hc => ?_)
  · have h := if_t hc h
    refine lv_iconst (v := (1 : Int32)) hx hb dX7_isRope_9 (by decide) ?_
    refine lv_goto (tgt := 14) hx hb dX7_isRope_10 (by decide) ?_
    cases h
    exact hend _ _ (by decide) dX7_isRope_14
  · have h := if_f hc h
    refine lv_iload_n hx hb dX7_isRope_4 rfl (lv_at hl 0 rfl) ?_
    refine lv_iconst (v := (1 : Int32)) hx hb dX7_isRope_5 (by decide) ?_
    refine lv_icmp_ne (tgt := 13) hx hb dX7_isRope_6 (by decide) (fun hc => ?_) (fun hc => ?_)
    · have h := if_f hc h
      refine lv_iconst (v := (0 : Int32)) hx hb dX7_isRope_13 (by decide) ?_
      cases h
      exact hend _ _ (by decide) dX7_isRope_14
    · have h := if_t hc h
      refine lv_iconst (v := (1 : Int32)) hx hb dX7_isRope_9 (by decide) ?_
      refine lv_goto (tgt := 14) hx hb dX7_isRope_10 (by decide) ?_
      cases h
      exact hend _ _ (by decide) dX7_isRope_14
