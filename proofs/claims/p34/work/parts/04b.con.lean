abbrev rmX7_write : Room := ({ frames := 1, cells := 0, slots := 0, locals := 21 } : Room)
set_option maxHeartbeats 4000000 in
set_option maxRecDepth 100000 in
theorem c_X7_write (l : Launch) (D : va_G) (cA : ClassId) (ad : (Nat → Nat → Nat)) (X : (Nat → Ob)) (x1 : Int32) (x2 : Int64) (r : Int32) (X_ : (Nat → Ob)) (h : f_X7_write X x1 x2 = some (r, X_)) : ConW l yX7_write wsX7_write rmX7_write D cA [.ref (ad 6 0), .int x1, .long x2] (wX7 cA ad X) r (wX7 cA ad X_) := by
  refine ConW.enter (cc := cX7_write) (maxL := 5) (by decide) rfl (Nat.le_of_ble_eq_true rfl) ?_
  intro p e s m args below meth c Q A hx hb hml hown hts hK hP hD hA hend ls hl
  have hS : va_S A s.heap s.heap [] := va_S.rf
  have hl : lv_has ls 5 [(0, .ref (ad 6 0)), (1, .int x1), (2, .long x2)] := hl
  unfold f_X7_write at h
  have lkf10 := hts (.fieldLink RX7 10 "TiedToTown" "text" "LTiedToTown$Text;") (List.mem_of_getElem? (i := 1) rfl)
  have hinX7 : ∀ w ∈ wsX70, w ∈ wsX7_write := fun w h => List.mem_cons_of_mem _ (List.mem_append_left _ (List.mem_append_right _ h))
  have LP36 : ∀ (x2 : Int64) (n : Nat) (x4 : Int32) (X : (Nat → Ob)) (H : Heap) (locs : List Loc) (_ : va_P D vwCl (wX7 cA ad X) H) (_ : va_D A (wX7 cA ad X)) (_ : va_S A s.heap H locs) (ls : Array Slot) (_ : lv_has ls 5 [(0, .ref (ad 6 0)), (2, .long x2), (4, .int x4)]) (res : (Nat → Ob)) (_ : L_X7_write_36 x2 n x4 X = some res) (_ : (∀ (H : Heap) (locs : List Loc) (_ : va_P D vwCl (wX7 cA ad res) H) (_ : va_D A (wX7 cA ad res)) (_ : va_S A s.heap H locs) (ls : Array Slot), lv_has ls 5 [(0, .ref (ad 6 0))] → W p l e rmX7_write s m args below meth c H locs 0 0 Q (F0 m 66 ls []))), W p l e rmX7_write s m args below meth c H locs 0 0 Q (F0 m 36 ls []) := by
    intro x2 n
    induction n with
    | zero =>
      intro x4 X H locs hP hD hS ls hl res h K0
      exact absurd h (fun q : (none : Option ((Nat → Ob))) = some res => by cases q)
    | succ n ih =>
      intro x4 X H locs hP hD hS ls hl res h K0
      have h : L_X7_write_36_step x2 (L_X7_write_36 x2 n) x4 X = some res := h
      unfold L_X7_write_36_step at h
      refine lv_iload hx hb dX7_write_36 (lv_at hl 2 rfl) ?_
      refine lv_if_lt (tgt := 66) hx hb dX7_write_38 (by decide) (fun hc => ?_) (fun hc => ?_)
      · have h := if_t hc h
        cases h
        exact K0 _ _ hP hD hS _ (lv_sub hl [0] rfl)
      · have h := if_f hc h
        refine lv_aload_n hx hb dX7_write_41 rfl (lv_at hl 0 rfl) ?_
        refine va_get (D := D) (ci := 7) (v := .ref (ad 0 0)) (C := RX7) (T := TX7) (N := 12) hx hb hts hinX7 hown hK.1 hP 0 rfl rfl 0 (by decide) lkf10 (fun _ h9 => h9) rfl dX7_write_42 ?_
        refine lv_lload_n hx hb dX7_write_45 rfl (lv_at hl 1 rfl) ?_
        refine lv_bipush (v := (8 : Int32)) hx hb dX7_write_46 (by decide) ?_
        refine lv_iload hx hb dX7_write_48 (lv_at hl 2 rfl) ?_
        refine lv_imul hx hb dX7_write_50 ?_
        refine lv_lushr hx hb dX7_write_51 rfl ?_
        refine lv_l2i hx hb dX7_write_52 rfl ?_
        refine lv_sipush (v := (255 : Int32)) hx hb dX7_write_53 (by decide) ?_
        refine lv_iand hx hb dX7_write_56 ?_
        obtain ⟨z1, hz1, h⟩ := bd_some h
        refine pV_V (As := [.int ((((x2.toUInt64 >>> (((8 : Int32) * x4).toInt64.toUInt64 &&& Int64.toUInt64 63)).toInt64).toInt32) &&& (255 : Int32))]) (rest := []) (wr := (tX7 ad (X 6) ++ (wX2 cA (ad 1) (X 1) ++ (wX6 cA (ad 2) (X 2) ++ (wX6 cA (ad 3) (X 3) ++ (wX6 cA (ad 4) (X 4) ++ (wX6 cA (ad 5) (X 5) ++ (wX1 cA (ad 7) (X 7) ++ (wX0 cA (ad 8) (ad 2 0) (X 8) ++ (wX4 cA (ad 9) (X 9) ++ (wX3 cA (ad 10) (X 10) ++ (wX3 cA (ad 11) (X 11))))))))))))) (wn := (wX7 cA ad (sX X 0 z1))) ⟨hx, hb, hml, hown, hts⟩ (c_X5_append l D cA (ad 0) (X 0) ((((x2.toUInt64 >>> (((8 : Int32) * x4).toInt64.toUInt64 &&& Int64.toUInt64 63)).toInt64).toInt32) &&& (255 : Int32))  z1 hz1) (cwV 1 hts gX7_write_X5_append rfl rfl rfl hd_X5_append ⟨(Nat.le_of_ble_eq_true rfl), (Nat.le_of_ble_eq_true rfl)⟩) (recvK hK (P_left (wc := wX5 cA (ad 0) (X 0)) (R := (tX7 ad (X 6) ++ (wX2 cA (ad 1) (X 1) ++ (wX6 cA (ad 2) (X 2) ++ (wX6 cA (ad 3) (X 3) ++ (wX6 cA (ad 4) (X 4) ++ (wX6 cA (ad 5) (X 5) ++ (wX1 cA (ad 7) (X 7) ++ (wX0 cA (ad 8) (ad 2 0) (X 8) ++ (wX4 cA (ad 9) (X 9) ++ (wX3 cA (ad 10) (X 10) ++ (wX3 cA (ad 11) (X 11))))))))))))) (perm_of (fun c hc => by unfold wX7 wX7b; simp only [hc]; omega)) hP) 0 5 rfl rfl) hK hP hD hS hA (perm_of (fun c hc => by unfold wX7 wX7b; simp only [hc]; omega)) (perm_of (fun c hc => by rw [show wX7 cA ad (sX X 0 z1) = wX7b cA ad z1 (X 1) (X 2) (X 3) (X 4) (X 5) (X 6) (X 7) (X 8) (X 9) (X 10) (X 11) from rfl]; unfold wX7b; simp only [hc]; omega)) rfl hl.1 rfl (Nat.le_of_ble_eq_true rfl) dX7_write_57 ⟨(Nat.le_of_ble_eq_true rfl), (Nat.le_of_ble_eq_true rfl)⟩ (fun H locs hP hD hS => ?_)
        obtain ⟨s2, es2⟩ : ∃ z, z = sX X 0 z1 := ⟨_, rfl⟩
        rw [← es2] at hP hD
        have h := nm_ap es2 h
        obtain ⟨v3, ev3⟩ : ∃ y : Int32, y = x4 + (-1 : Int32) := ⟨_, rfl⟩
        refine lv_iinc (v := v3) (lv' := [(4, .int v3), (0, .ref (ad 6 0)), (2, .long x2)]) hx hb dX7_write_60 hl (k := 2) rfl (by rw [ev3]; rfl) (by decide) rfl (fun ls hl => ?_)
        have h := nm_ap ev3 h
        refine lv_goto (tgt := 36) hx hb dX7_write_63 (by decide) ?_
        exact ih v3 s2 _ _ hP hD hS ls (lv_sub hl [1, 2, 0] rfl) _ h K0
  refine lv_iload_n hx hb dX7_write_0 rfl (lv_at hl 1 rfl) ?_
  refine lv_iconst (v := (1 : Int32)) hx hb dX7_write_1 (by decide) ?_
  refine lv_icmp_lt (tgt := 11) hx hb dX7_write_2 (by decide) (fun hc => ?_) (fun hc => ?_)
  · have h := if_t hc h
    refine lv_iconst (v := (-1 : Int32)) hx hb dX7_write_11 (by decide) ?_
    cases h
    exact hend _ _ _ _ hP hD hS dX7_write_12
  · have h := if_f hc h
    refine lv_iload_n hx hb dX7_write_5 rfl (lv_at hl 1 rfl) ?_
    refine lv_bipush (v := (8 : Int32)) hx hb dX7_write_6 (by decide) ?_
    refine lv_icmp_le (tgt := 13) hx hb dX7_write_8 (by decide) (fun hc => ?_) (fun hc => ?_)
    · have h := if_t hc h
      refine lv_aload_n hx hb dX7_write_13 rfl (lv_at hl 0 rfl) ?_
      refine va_get (D := D) (ci := 7) (v := .ref (ad 0 0)) (C := RX7) (T := TX7) (N := 12) hx hb hts hinX7 hown hK.1 hP 0 rfl rfl 0 (by decide) lkf10 (fun _ h9 => h9) rfl dX7_write_14 ?_
      obtain ⟨z1, hz1, h⟩ := bd_some h
      refine pR_V (As := []) (rest := []) (wr := (tX7 ad (X 6) ++ (wX2 cA (ad 1) (X 1) ++ (wX6 cA (ad 2) (X 2) ++ (wX6 cA (ad 3) (X 3) ++ (wX6 cA (ad 4) (X 4) ++ (wX6 cA (ad 5) (X 5) ++ (wX1 cA (ad 7) (X 7) ++ (wX0 cA (ad 8) (ad 2 0) (X 8) ++ (wX4 cA (ad 9) (X 9) ++ (wX3 cA (ad 10) (X 10) ++ (wX3 cA (ad 11) (X 11))))))))))))) ⟨hx, hb, hml, hown, hts⟩ (c_X5_size l D cA (ad 0) (X 0)  z1 hz1) (cwV 0 hts gX7_write_X5_size rfl rfl rfl hd_X5_size ⟨(Nat.le_of_ble_eq_true rfl), (Nat.le_of_ble_eq_true rfl)⟩) (recvK hK (P_left (wc := wX5 cA (ad 0) (X 0)) (R := (tX7 ad (X 6) ++ (wX2 cA (ad 1) (X 1) ++ (wX6 cA (ad 2) (X 2) ++ (wX6 cA (ad 3) (X 3) ++ (wX6 cA (ad 4) (X 4) ++ (wX6 cA (ad 5) (X 5) ++ (wX1 cA (ad 7) (X 7) ++ (wX0 cA (ad 8) (ad 2 0) (X 8) ++ (wX4 cA (ad 9) (X 9) ++ (wX3 cA (ad 10) (X 10) ++ (wX3 cA (ad 11) (X 11))))))))))))) (perm_of (fun c hc => by unfold wX7 wX7b; simp only [hc]; omega)) hP) 0 5 rfl rfl) hK hP (perm_of (fun c hc => by unfold wX7 wX7b; simp only [hc]; omega)) rfl hl.1 rfl (Nat.le_of_ble_eq_true rfl) dX7_write_17 ⟨(Nat.le_of_ble_eq_true rfl), (Nat.le_of_ble_eq_true rfl)⟩ ?_
      refine lv_iload_n hx hb dX7_write_20 rfl (lv_at hl 1 rfl) ?_
      refine lv_iadd hx hb dX7_write_21 ?_
      refine lv_sipush (v := (300 : Int32)) hx hb dX7_write_22 (by decide) ?_
      refine lv_icmp_le (tgt := 31) hx hb dX7_write_25 (by decide) (fun hc => ?_) (fun hc => ?_)
      · have h := if_t hc h
        refine lv_iload_n hx hb dX7_write_31 rfl (lv_at hl 1 rfl) ?_
        refine lv_iconst (v := (1 : Int32)) hx hb dX7_write_32 (by decide) ?_
        refine lv_isub hx hb dX7_write_33 ?_
        refine lv_topi (fun v2 ev2 => ?_)
        have h := nm_ap ev2 h
        refine lv_istore (lv' := [(4, .int v2), (0, .ref (ad 6 0)), (1, .int x1), (2, .long x2)]) hx hb dX7_write_34 hl (by decide) rfl (fun ls hl => ?_)
        obtain ⟨z3, hz3, h⟩ := bd_some h
        refine LP36 x2 512 v2 X _ _ hP hD hS ls (lv_sub hl [1, 3, 0] rfl) _ hz3 ?_
        · intro H locs hP hD hS ls hl
          refine lv_aload_n hx hb dX7_write_66 rfl (lv_at hl 0 rfl) ?_
          refine va_get (D := D) (ci := 7) (v := .ref (ad 0 0)) (C := RX7) (T := TX7) (N := 12) hx hb hts hinX7 hown hK.1 hP 0 rfl rfl 0 (by decide) lkf10 (fun _ h9 => h9) rfl dX7_write_67 ?_
          obtain ⟨z4, hz4, h⟩ := bd_some h
          refine pR_V (As := []) (rest := []) (wr := (tX7 ad (z3 6) ++ (wX2 cA (ad 1) (z3 1) ++ (wX6 cA (ad 2) (z3 2) ++ (wX6 cA (ad 3) (z3 3) ++ (wX6 cA (ad 4) (z3 4) ++ (wX6 cA (ad 5) (z3 5) ++ (wX1 cA (ad 7) (z3 7) ++ (wX0 cA (ad 8) (ad 2 0) (z3 8) ++ (wX4 cA (ad 9) (z3 9) ++ (wX3 cA (ad 10) (z3 10) ++ (wX3 cA (ad 11) (z3 11))))))))))))) ⟨hx, hb, hml, hown, hts⟩ (c_X5_size l D cA (ad 0) (z3 0)  z4 hz4) (cwV 0 hts gX7_write_X5_size rfl rfl rfl hd_X5_size ⟨(Nat.le_of_ble_eq_true rfl), (Nat.le_of_ble_eq_true rfl)⟩) (recvK hK (P_left (wc := wX5 cA (ad 0) (z3 0)) (R := (tX7 ad (z3 6) ++ (wX2 cA (ad 1) (z3 1) ++ (wX6 cA (ad 2) (z3 2) ++ (wX6 cA (ad 3) (z3 3) ++ (wX6 cA (ad 4) (z3 4) ++ (wX6 cA (ad 5) (z3 5) ++ (wX1 cA (ad 7) (z3 7) ++ (wX0 cA (ad 8) (ad 2 0) (z3 8) ++ (wX4 cA (ad 9) (z3 9) ++ (wX3 cA (ad 10) (z3 10) ++ (wX3 cA (ad 11) (z3 11))))))))))))) (perm_of (fun c hc => by unfold wX7 wX7b; simp only [hc]; omega)) hP) 0 5 rfl rfl) hK hP (perm_of (fun c hc => by unfold wX7 wX7b; simp only [hc]; omega)) rfl hl.1 rfl (Nat.le_of_ble_eq_true rfl) dX7_write_70 ⟨(Nat.le_of_ble_eq_true rfl), (Nat.le_of_ble_eq_true rfl)⟩ ?_
          cases h
          exact hend _ _ _ _ hP hD hS dX7_write_73
      · have h := if_f hc h
        refine lv_bipush (v := (-3 : Int32)) hx hb dX7_write_28 (by decide) ?_
        cases h
        exact hend _ _ _ _ hP hD hS dX7_write_30
    · have h := if_f hc h
      refine lv_iconst (v := (-1 : Int32)) hx hb dX7_write_11 (by decide) ?_
      cases h
      exact hend _ _ _ _ hP hD hS dX7_write_12
abbrev rmX7_wipe : Room := ({ frames := 1, cells := 0, slots := 0, locals := 20 } : Room)
set_option maxHeartbeats 4000000 in
set_option maxRecDepth 100000 in
theorem c_X7_wipe (l : Launch) (D : va_G) (cA : ClassId) (ad : (Nat → Nat → Nat)) (X : (Nat → Ob)) (r : Int32) (X_ : (Nat → Ob)) (h : f_X7_wipe X = some (r, X_)) : ConW l yX7_wipe wsX7_wipe rmX7_wipe D cA [.ref (ad 6 0)] (wX7 cA ad X) r (wX7 cA ad X_) := by
  refine ConW.enter (cc := cX7_wipe) (maxL := 2) (by decide) rfl (Nat.le_of_ble_eq_true rfl) ?_
  intro p e s m args below meth c Q A hx hb hml hown hts hK hP hD hA hend ls hl
  have hS : va_S A s.heap s.heap [] := va_S.rf
  have hl : lv_has ls 2 [(0, .ref (ad 6 0))] := hl
  unfold f_X7_wipe at h
  have lkf10 := hts (.fieldLink RX7 10 "TiedToTown" "text" "LTiedToTown$Text;") (List.mem_of_getElem? (i := 1) rfl)
  have hinX7 : ∀ w ∈ wsX70, w ∈ wsX7_wipe := fun w h => List.mem_cons_of_mem _ (List.mem_append_left _ (List.mem_append_right _ h))
  refine lv_aload_n hx hb dX7_wipe_0 rfl (lv_at hl 0 rfl) ?_
  refine va_get (D := D) (ci := 7) (v := .ref (ad 0 0)) (C := RX7) (T := TX7) (N := 12) hx hb hts hinX7 hown hK.1 hP 0 rfl rfl 0 (by decide) lkf10 (fun _ h9 => h9) rfl dX7_wipe_1 ?_
  obtain ⟨z1, hz1, h⟩ := bd_some h
  refine pR_V (As := []) (rest := []) (wr := (tX7 ad (X 6) ++ (wX2 cA (ad 1) (X 1) ++ (wX6 cA (ad 2) (X 2) ++ (wX6 cA (ad 3) (X 3) ++ (wX6 cA (ad 4) (X 4) ++ (wX6 cA (ad 5) (X 5) ++ (wX1 cA (ad 7) (X 7) ++ (wX0 cA (ad 8) (ad 2 0) (X 8) ++ (wX4 cA (ad 9) (X 9) ++ (wX3 cA (ad 10) (X 10) ++ (wX3 cA (ad 11) (X 11))))))))))))) ⟨hx, hb, hml, hown, hts⟩ (c_X5_size l D cA (ad 0) (X 0)  z1 hz1) (cwV 0 hts gX7_wipe_X5_size rfl rfl rfl hd_X5_size ⟨(Nat.le_of_ble_eq_true rfl), (Nat.le_of_ble_eq_true rfl)⟩) (recvK hK (P_left (wc := wX5 cA (ad 0) (X 0)) (R := (tX7 ad (X 6) ++ (wX2 cA (ad 1) (X 1) ++ (wX6 cA (ad 2) (X 2) ++ (wX6 cA (ad 3) (X 3) ++ (wX6 cA (ad 4) (X 4) ++ (wX6 cA (ad 5) (X 5) ++ (wX1 cA (ad 7) (X 7) ++ (wX0 cA (ad 8) (ad 2 0) (X 8) ++ (wX4 cA (ad 9) (X 9) ++ (wX3 cA (ad 10) (X 10) ++ (wX3 cA (ad 11) (X 11))))))))))))) (perm_of (fun c hc => by unfold wX7 wX7b; simp only [hc]; omega)) hP) 0 5 rfl rfl) hK hP (perm_of (fun c hc => by unfold wX7 wX7b; simp only [hc]; omega)) rfl hl.1 rfl (Nat.le_of_ble_eq_true rfl) dX7_wipe_4 ⟨(Nat.le_of_ble_eq_true rfl), (Nat.le_of_ble_eq_true rfl)⟩ ?_
  refine lv_istore_n (lv' := [(1, .int z1), (0, .ref (ad 6 0))]) hx hb dX7_wipe_7 rfl hl (by decide) rfl (fun ls hl => ?_)
  refine lv_aload_n hx hb dX7_wipe_8 rfl (lv_at hl 1 rfl) ?_
  refine va_get (D := D) (ci := 7) (v := .ref (ad 0 0)) (C := RX7) (T := TX7) (N := 12) hx hb hts hinX7 hown hK.1 hP 0 rfl rfl 0 (by decide) lkf10 (fun _ h9 => h9) rfl dX7_wipe_9 ?_
  obtain ⟨z2, hz2, h⟩ := bd_some h
  refine pV_V (As := []) (rest := []) (wr := (tX7 ad (X 6) ++ (wX2 cA (ad 1) (X 1) ++ (wX6 cA (ad 2) (X 2) ++ (wX6 cA (ad 3) (X 3) ++ (wX6 cA (ad 4) (X 4) ++ (wX6 cA (ad 5) (X 5) ++ (wX1 cA (ad 7) (X 7) ++ (wX0 cA (ad 8) (ad 2 0) (X 8) ++ (wX4 cA (ad 9) (X 9) ++ (wX3 cA (ad 10) (X 10) ++ (wX3 cA (ad 11) (X 11))))))))))))) (wn := (wX7 cA ad (sX X 0 z2))) ⟨hx, hb, hml, hown, hts⟩ (c_X5_empty l D cA (ad 0) (X 0)   z2 hz2) (cwV 0 hts gX7_wipe_X5_empty rfl rfl rfl hd_X5_empty ⟨(Nat.le_of_ble_eq_true rfl), (Nat.le_of_ble_eq_true rfl)⟩) (recvK hK (P_left (wc := wX5 cA (ad 0) (X 0)) (R := (tX7 ad (X 6) ++ (wX2 cA (ad 1) (X 1) ++ (wX6 cA (ad 2) (X 2) ++ (wX6 cA (ad 3) (X 3) ++ (wX6 cA (ad 4) (X 4) ++ (wX6 cA (ad 5) (X 5) ++ (wX1 cA (ad 7) (X 7) ++ (wX0 cA (ad 8) (ad 2 0) (X 8) ++ (wX4 cA (ad 9) (X 9) ++ (wX3 cA (ad 10) (X 10) ++ (wX3 cA (ad 11) (X 11))))))))))))) (perm_of (fun c hc => by unfold wX7 wX7b; simp only [hc]; omega)) hP) 0 5 rfl rfl) hK hP hD hS hA (perm_of (fun c hc => by unfold wX7 wX7b; simp only [hc]; omega)) (perm_of (fun c hc => by rw [show wX7 cA ad (sX X 0 z2) = wX7b cA ad z2 (X 1) (X 2) (X 3) (X 4) (X 5) (X 6) (X 7) (X 8) (X 9) (X 10) (X 11) from rfl]; unfold wX7b; simp only [hc]; omega)) rfl hl.1 rfl (Nat.le_of_ble_eq_true rfl) dX7_wipe_12 ⟨(Nat.le_of_ble_eq_true rfl), (Nat.le_of_ble_eq_true rfl)⟩ (fun H locs hP hD hS => ?_)
  obtain ⟨s3, es3⟩ : ∃ z, z = sX X 0 z2 := ⟨_, rfl⟩
  rw [← es3] at hP hD
  have h := nm_ap es3 h
  refine lv_iload_n hx hb dX7_wipe_15 rfl (lv_at hl 0 rfl) ?_
  cases h
  exact hend _ _ _ _ hP hD hS dX7_wipe_16
abbrev rmX7_fault : Room := ({ frames := 6, cells := 0, slots := 0, locals := 139 } : Room)
set_option maxHeartbeats 4000000 in
set_option maxRecDepth 100000 in
theorem c_X7_fault (l : Launch) (D : va_G) (cA : ClassId) (ad : (Nat → Nat → Nat)) (X : (Nat → Ob)) (r : Int32) (X_ : (Nat → Ob)) (h : f_X7_fault X = some (r, X_)) : ConW l yX7_fault wsX7_fault rmX7_fault D cA [.ref (ad 6 0)] (wX7 cA ad X) r (wX7 cA ad X_) := by
  refine ConW.enter (cc := cX7_fault) (maxL := 1) (by decide) rfl (Nat.le_of_ble_eq_true rfl) ?_
  intro p e s m args below meth c Q A hx hb hml hown hts hK hP hD hA hend ls hl
  have hS : va_S A s.heap s.heap [] := va_S.rf
  have hl : lv_has ls 1 [(0, .ref (ad 6 0))] := hl
  unfold f_X7_fault at h
  have lkf19 := hts (.fieldLink RX7 19 "TiedToTown" "reader" "LTiedToTown$Reader;") (List.mem_of_getElem? (i := 1) rfl)
  have hinX7 : ∀ w ∈ wsX70, w ∈ wsX7_fault := fun w h => List.mem_cons_of_mem _ (List.mem_append_left _ (List.mem_append_left _ (List.mem_append_left _ (List.mem_append_right _ h))))
  have lkf10 := hts (.fieldLink RX7 10 "TiedToTown" "text" "LTiedToTown$Text;") (List.mem_of_getElem? (i := 2) rfl)
  have lkf30 := hts (.fieldLink RX7 30 "TiedToTown" "told" "LTiedToTown$Town;") (List.mem_of_getElem? (i := 3) rfl)
  refine lv_aload_n hx hb dX7_fault_0 rfl (lv_at hl 0 rfl) ?_
  refine va_get (D := D) (ci := 7) (v := .ref (ad 1 0)) (C := RX7) (T := TX7) (N := 12) hx hb hts hinX7 hown hK.1 hP 0 rfl rfl 1 (by decide) lkf19 (fun _ h9 => h9) rfl dX7_fault_1 ?_
  refine lv_aload_n hx hb dX7_fault_4 rfl (lv_at hl 0 rfl) ?_
  refine va_get (D := D) (ci := 7) (v := .ref (ad 0 0)) (C := RX7) (T := TX7) (N := 12) hx hb hts hinX7 hown hK.1 hP 0 rfl rfl 0 (by decide) lkf10 (fun _ h9 => h9) rfl dX7_fault_5 ?_
  refine lv_aload_n hx hb dX7_fault_8 rfl (lv_at hl 0 rfl) ?_
  refine va_get (D := D) (ci := 7) (v := .ref (ad 3 0)) (C := RX7) (T := TX7) (N := 12) hx hb hts hinX7 hown hK.1 hP 0 rfl rfl 3 (by decide) lkf30 (fun _ h9 => h9) rfl dX7_fault_9 ?_
  obtain ⟨z1, hz1, h⟩ := bd_some h
  refine pW_V (As := [.ref (ad 0 0), .ref (ad 3 0)]) (rest := []) (wr := (tX7 ad (X 6) ++ (wX6 cA (ad 2) (X 2) ++ (wX6 cA (ad 4) (X 4) ++ (wX6 cA (ad 5) (X 5) ++ (wX1 cA (ad 7) (X 7) ++ (wX0 cA (ad 8) (ad 2 0) (X 8) ++ (wX4 cA (ad 9) (X 9) ++ (wX3 cA (ad 10) (X 10) ++ (wX3 cA (ad 11) (X 11))))))))))) (wn := (wX7 cA ad (sX (sX X 1 z1.2.1) 3 z1.2.2))) ⟨hx, hb, hml, hown, hts⟩ (c_X2_read l D cA (ad 1) (X 1) (ad 0) (X 0) (ad 3) (X 3)  z1.1 z1.2.1 z1.2.2 hz1) (cwV 2 hts gX7_fault_X2_read rfl rfl rfl hd_X2_read ⟨(Nat.le_of_ble_eq_true rfl), (Nat.le_of_ble_eq_true rfl)⟩) (recvK hK (P_left (wc := wX2 cA (ad 1) (X 1)) (R := (tX7 ad (X 6) ++ (wX5 cA (ad 0) (X 0) ++ (wX6 cA (ad 2) (X 2) ++ (wX6 cA (ad 3) (X 3) ++ (wX6 cA (ad 4) (X 4) ++ (wX6 cA (ad 5) (X 5) ++ (wX1 cA (ad 7) (X 7) ++ (wX0 cA (ad 8) (ad 2 0) (X 8) ++ (wX4 cA (ad 9) (X 9) ++ (wX3 cA (ad 10) (X 10) ++ (wX3 cA (ad 11) (X 11))))))))))))) (perm_of (fun c hc => by unfold wX7 wX7b; simp only [hc]; omega)) hP) 0 2 rfl rfl) hK hP hD hS hA (perm_of (fun c hc => by unfold wX7 wX7b; simp only [hc]; omega)) (perm_of (fun c hc => by rw [show wX7 cA ad (sX (sX X 1 z1.2.1) 3 z1.2.2) = wX7b cA ad (X 0) z1.2.1 (X 2) z1.2.2 (X 4) (X 5) (X 6) (X 7) (X 8) (X 9) (X 10) (X 11) from rfl]; unfold wX7b; simp only [hc]; omega)) rfl hl.1 rfl (Nat.le_of_ble_eq_true rfl) dX7_fault_12 ⟨(Nat.le_of_ble_eq_true rfl), (Nat.le_of_ble_eq_true rfl)⟩ (fun H locs hP hD hS => ?_)
  obtain ⟨s2, es2⟩ : ∃ z, z = sX (sX X 1 z1.2.1) 3 z1.2.2 := ⟨_, rfl⟩
  rw [← es2] at hP hD
  have h := nm_ap es2 h
  cases h
  exact hend _ _ _ _ hP hD hS dX7_fault_15
abbrev rmX7_lay : Room := ({ frames := 6, cells := 0, slots := 0, locals := 139 } : Room)
set_option maxHeartbeats 4000000 in
set_option maxRecDepth 100000 in
theorem c_X7_lay (l : Launch) (D : va_G) (cA : ClassId) (ad : (Nat → Nat → Nat)) (X : (Nat → Ob)) (r : Int32) (X_ : (Nat → Ob)) (h : f_X7_lay X = some (r, X_)) : ConW l yX7_lay wsX7_lay rmX7_lay D cA [.ref (ad 6 0)] (wX7 cA ad X) r (wX7 cA ad X_) := by
  refine ConW.enter (cc := cX7_lay) (maxL := 1) (by decide) rfl (Nat.le_of_ble_eq_true rfl) ?_
  intro p e s m args below meth c Q A hx hb hml hown hts hK hP hD hA hend ls hl
  have hS : va_S A s.heap s.heap [] := va_S.rf
  have hl : lv_has ls 1 [(0, .ref (ad 6 0))] := hl
  unfold f_X7_lay at h
  have lkf19 := hts (.fieldLink RX7 19 "TiedToTown" "reader" "LTiedToTown$Reader;") (List.mem_of_getElem? (i := 1) rfl)
  have hinX7 : ∀ w ∈ wsX70, w ∈ wsX7_lay := fun w h => List.mem_cons_of_mem _ (List.mem_append_left _ (List.mem_append_left _ (List.mem_append_left _ (List.mem_append_left _ (List.mem_append_left _ (List.mem_append_left _ (List.mem_append_right _ h)))))))
  have lkf10 := hts (.fieldLink RX7 10 "TiedToTown" "text" "LTiedToTown$Text;") (List.mem_of_getElem? (i := 2) rfl)
  have lkf30 := hts (.fieldLink RX7 30 "TiedToTown" "told" "LTiedToTown$Town;") (List.mem_of_getElem? (i := 3) rfl)
  have lkf99 := va_Nw.use (w := Cond.fieldLinkNest RX7 99 "TiedToTown$Town" "knots" "I" "TiedToTown") rfl (A := args) (hK.2 _ (List.mem_of_getElem? (i := 16) rfl))
  have hinX6 : ∀ w ∈ wsX60, w ∈ wsX7_lay := fun w h => List.mem_cons_of_mem _ (List.mem_append_left _ (List.mem_append_left _ (List.mem_append_left _ (List.mem_append_left _ (List.mem_append_left _ (List.mem_append_right _ h))))))
  have lkf26 := hts (.fieldLink RX7 26 "TiedToTown" "town" "LTiedToTown$Town;") (List.mem_of_getElem? (i := 4) rfl)
  have lkf62 := hts (.fieldLink RX7 62 "TiedToTown" "row" "LTiedToTown$Row;") (List.mem_of_getElem? (i := 5) rfl)
  have lkf69 := hts (.fieldLink RX7 69 "TiedToTown" "leftRope" "LTiedToTown$Rope;") (List.mem_of_getElem? (i := 6) rfl)
  have lkf73 := hts (.fieldLink RX7 73 "TiedToTown" "rightRope" "LTiedToTown$Rope;") (List.mem_of_getElem? (i := 7) rfl)
  have lkf46 := hts (.fieldLink RX7 46 "TiedToTown" "past" "LTiedToTown$Past;") (List.mem_of_getElem? (i := 8) rfl)
  have lkf39 := hts (.fieldLink RX7 39 "TiedToTown" "kept" "I") (List.mem_of_getElem? (i := 9) rfl)
  refine lv_aload_n hx hb dX7_lay_0 rfl (lv_at hl 0 rfl) ?_
  refine va_get (D := D) (ci := 7) (v := .ref (ad 1 0)) (C := RX7) (T := TX7) (N := 12) hx hb hts hinX7 hown hK.1 hP 0 rfl rfl 1 (by decide) lkf19 (fun _ h9 => h9) rfl dX7_lay_1 ?_
  refine lv_aload_n hx hb dX7_lay_4 rfl (lv_at hl 0 rfl) ?_
  refine va_get (D := D) (ci := 7) (v := .ref (ad 0 0)) (C := RX7) (T := TX7) (N := 12) hx hb hts hinX7 hown hK.1 hP 0 rfl rfl 0 (by decide) lkf10 (fun _ h9 => h9) rfl dX7_lay_5 ?_
  refine lv_aload_n hx hb dX7_lay_8 rfl (lv_at hl 0 rfl) ?_
  refine va_get (D := D) (ci := 7) (v := .ref (ad 3 0)) (C := RX7) (T := TX7) (N := 12) hx hb hts hinX7 hown hK.1 hP 0 rfl rfl 3 (by decide) lkf30 (fun _ h9 => h9) rfl dX7_lay_9 ?_
  obtain ⟨z1, hz1, h⟩ := bd_some h
  refine pW_V (As := [.ref (ad 0 0), .ref (ad 3 0)]) (rest := []) (wr := (tX7 ad (X 6) ++ (wX6 cA (ad 2) (X 2) ++ (wX6 cA (ad 4) (X 4) ++ (wX6 cA (ad 5) (X 5) ++ (wX1 cA (ad 7) (X 7) ++ (wX0 cA (ad 8) (ad 2 0) (X 8) ++ (wX4 cA (ad 9) (X 9) ++ (wX3 cA (ad 10) (X 10) ++ (wX3 cA (ad 11) (X 11))))))))))) (wn := (wX7 cA ad (sX (sX X 1 z1.2.1) 3 z1.2.2))) ⟨hx, hb, hml, hown, hts⟩ (c_X2_read l D cA (ad 1) (X 1) (ad 0) (X 0) (ad 3) (X 3)  z1.1 z1.2.1 z1.2.2 hz1) (cwV 2 hts gX7_lay_X2_read rfl rfl rfl hd_X2_read ⟨(Nat.le_of_ble_eq_true rfl), (Nat.le_of_ble_eq_true rfl)⟩) (recvK hK (P_left (wc := wX2 cA (ad 1) (X 1)) (R := (tX7 ad (X 6) ++ (wX5 cA (ad 0) (X 0) ++ (wX6 cA (ad 2) (X 2) ++ (wX6 cA (ad 3) (X 3) ++ (wX6 cA (ad 4) (X 4) ++ (wX6 cA (ad 5) (X 5) ++ (wX1 cA (ad 7) (X 7) ++ (wX0 cA (ad 8) (ad 2 0) (X 8) ++ (wX4 cA (ad 9) (X 9) ++ (wX3 cA (ad 10) (X 10) ++ (wX3 cA (ad 11) (X 11))))))))))))) (perm_of (fun c hc => by unfold wX7 wX7b; simp only [hc]; omega)) hP) 0 2 rfl rfl) hK hP hD hS hA (perm_of (fun c hc => by unfold wX7 wX7b; simp only [hc]; omega)) (perm_of (fun c hc => by rw [show wX7 cA ad (sX (sX X 1 z1.2.1) 3 z1.2.2) = wX7b cA ad (X 0) z1.2.1 (X 2) z1.2.2 (X 4) (X 5) (X 6) (X 7) (X 8) (X 9) (X 10) (X 11) from rfl]; unfold wX7b; simp only [hc]; omega)) rfl hl.1 rfl (Nat.le_of_ble_eq_true rfl) dX7_lay_12 ⟨(Nat.le_of_ble_eq_true rfl), (Nat.le_of_ble_eq_true rfl)⟩ (fun H locs hP hD hS => ?_)
  obtain ⟨s2, es2⟩ : ∃ z, z = sX (sX X 1 z1.2.1) 3 z1.2.2 := ⟨_, rfl⟩
  rw [← es2] at hP hD
  have h := nm_ap es2 h
  refine lv_bipush (v := (-4 : Int32)) hx hb dX7_lay_15 (by decide) ?_
  refine lv_icmp_ne (tgt := 31) hx hb dX7_lay_17 (by decide) (fun hc => ?_) (fun hc => ?_)
  · have h := if_f hc h
    refine lv_bipush (v := (-2 : Int32)) hx hb dX7_lay_31 (by decide) ?_
    cases h
    exact hend _ _ _ _ hP hD hS dX7_lay_33
  · have h := if_t hc h
    refine lv_aload_n hx hb dX7_lay_20 rfl (lv_at hl 0 rfl) ?_
    refine va_get (D := D) (ci := 7) (v := .ref (ad 3 0)) (C := RX7) (T := TX7) (N := 12) hx hb hts hinX7 hown hK.1 hP 0 rfl rfl 3 (by decide) lkf30 (fun _ h9 => h9) rfl dX7_lay_21 ?_
    refine va_getN (D := D) (ci := 6) (v := .int ((s2 3).1 9)) (C := RX6) (T := TX6) (N := 12) hx hb hts hinX6 hown hK.1 (P_left (wc := wX6 cA (ad 3) (s2 3)) (R := (tX7 ad (s2 6) ++ (wX5 cA (ad 0) (s2 0) ++ (wX2 cA (ad 1) (s2 1) ++ (wX6 cA (ad 2) (s2 2) ++ (wX6 cA (ad 4) (s2 4) ++ (wX6 cA (ad 5) (s2 5) ++ (wX1 cA (ad 7) (s2 7) ++ (wX0 cA (ad 8) (ad 2 0) (s2 8) ++ (wX4 cA (ad 9) (s2 9) ++ (wX3 cA (ad 10) (s2 10) ++ (wX3 cA (ad 11) (s2 11))))))))))))) (perm_of (fun c hc => by unfold wX7 wX7b; simp only [hc]; omega)) hP) 0 rfl rfl 9 (by decide) lkf99 (fun _ h9 => h9) rfl dX7_lay_24 ?_
    refine lv_iconst (v := (1 : Int32)) hx hb dX7_lay_27 (by decide) ?_
    refine lv_icmp_ge (tgt := 34) hx hb dX7_lay_28 (by decide) (fun hc => ?_) (fun hc => ?_)
    · have h := if_t hc h
      refine lv_aload_n hx hb dX7_lay_34 rfl (lv_at hl 0 rfl) ?_
      refine va_get (D := D) (ci := 7) (v := .ref (ad 2 0)) (C := RX7) (T := TX7) (N := 12) hx hb hts hinX7 hown hK.1 hP 0 rfl rfl 2 (by decide) lkf26 (fun _ h9 => h9) rfl dX7_lay_35 ?_
      refine lv_aload_n hx hb dX7_lay_38 rfl (lv_at hl 0 rfl) ?_
      refine va_get (D := D) (ci := 7) (v := .ref (ad 3 0)) (C := RX7) (T := TX7) (N := 12) hx hb hts hinX7 hown hK.1 hP 0 rfl rfl 3 (by decide) lkf30 (fun _ h9 => h9) rfl dX7_lay_39 ?_
      obtain ⟨z3, hz3, h⟩ := bd_some h
      refine pV_V (As := [.ref (ad 3 0)]) (rest := []) (wr := (tX7 ad (s2 6) ++ (wX5 cA (ad 0) (s2 0) ++ (wX2 cA (ad 1) (s2 1) ++ (wX6 cA (ad 4) (s2 4) ++ (wX6 cA (ad 5) (s2 5) ++ (wX1 cA (ad 7) (s2 7) ++ (wX0 cA (ad 8) (ad 2 0) (s2 8) ++ (wX4 cA (ad 9) (s2 9) ++ (wX3 cA (ad 10) (s2 10) ++ (wX3 cA (ad 11) (s2 11)))))))))))) (wn := (wX7 cA ad (sX s2 2 z3))) ⟨hx, hb, hml, hown, hts⟩ (c_X6_copy l D cA (ad 2) (s2 2) (ad 3) (s2 3)   z3 hz3) (cwV 1 hts gX7_lay_X6_copy rfl rfl rfl hd_X6_copy ⟨(Nat.le_of_ble_eq_true rfl), (Nat.le_of_ble_eq_true rfl)⟩) (recvK hK (P_left (wc := wX6 cA (ad 2) (s2 2)) (R := (tX7 ad (s2 6) ++ (wX5 cA (ad 0) (s2 0) ++ (wX2 cA (ad 1) (s2 1) ++ (wX6 cA (ad 3) (s2 3) ++ (wX6 cA (ad 4) (s2 4) ++ (wX6 cA (ad 5) (s2 5) ++ (wX1 cA (ad 7) (s2 7) ++ (wX0 cA (ad 8) (ad 2 0) (s2 8) ++ (wX4 cA (ad 9) (s2 9) ++ (wX3 cA (ad 10) (s2 10) ++ (wX3 cA (ad 11) (s2 11))))))))))))) (perm_of (fun c hc => by unfold wX7 wX7b; simp only [hc]; omega)) hP) 0 6 rfl rfl) hK hP hD hS hA (perm_of (fun c hc => by unfold wX7 wX7b; simp only [hc]; omega)) (perm_of (fun c hc => by rw [show wX7 cA ad (sX s2 2 z3) = wX7b cA ad (s2 0) (s2 1) z3 (s2 3) (s2 4) (s2 5) (s2 6) (s2 7) (s2 8) (s2 9) (s2 10) (s2 11) from rfl]; unfold wX7b; simp only [hc]; omega)) rfl hl.1 rfl (Nat.le_of_ble_eq_true rfl) dX7_lay_42 ⟨(Nat.le_of_ble_eq_true rfl), (Nat.le_of_ble_eq_true rfl)⟩ (fun H locs hP hD hS => ?_)
      obtain ⟨s4, es4⟩ : ∃ z, z = sX s2 2 z3 := ⟨_, rfl⟩
      rw [← es4] at hP hD
      have h := nm_ap es4 h
      refine lv_aload_n hx hb dX7_lay_45 rfl (lv_at hl 0 rfl) ?_
      refine va_get (D := D) (ci := 7) (v := .ref (ad 9 0)) (C := RX7) (T := TX7) (N := 12) hx hb hts hinX7 hown hK.1 hP 0 rfl rfl 9 (by decide) lkf62 (fun _ h9 => h9) rfl dX7_lay_46 ?_
      obtain ⟨z5, hz5, h⟩ := bd_some h
      refine pV_V (As := []) (rest := []) (wr := (tX7 ad (s4 6) ++ (wX5 cA (ad 0) (s4 0) ++ (wX2 cA (ad 1) (s4 1) ++ (wX6 cA (ad 2) (s4 2) ++ (wX6 cA (ad 3) (s4 3) ++ (wX6 cA (ad 4) (s4 4) ++ (wX6 cA (ad 5) (s4 5) ++ (wX1 cA (ad 7) (s4 7) ++ (wX0 cA (ad 8) (ad 2 0) (s4 8) ++ (wX3 cA (ad 10) (s4 10) ++ (wX3 cA (ad 11) (s4 11))))))))))))) (wn := (wX7 cA ad (sX s4 9 z5))) ⟨hx, hb, hml, hown, hts⟩ (c_X4_empty l D cA (ad 9) (s4 9)   z5 hz5) (cwV 0 hts gX7_lay_X4_empty rfl rfl rfl hd_X4_empty ⟨(Nat.le_of_ble_eq_true rfl), (Nat.le_of_ble_eq_true rfl)⟩) (recvK hK (P_left (wc := wX4 cA (ad 9) (s4 9)) (R := (tX7 ad (s4 6) ++ (wX5 cA (ad 0) (s4 0) ++ (wX2 cA (ad 1) (s4 1) ++ (wX6 cA (ad 2) (s4 2) ++ (wX6 cA (ad 3) (s4 3) ++ (wX6 cA (ad 4) (s4 4) ++ (wX6 cA (ad 5) (s4 5) ++ (wX1 cA (ad 7) (s4 7) ++ (wX0 cA (ad 8) (ad 2 0) (s4 8) ++ (wX3 cA (ad 10) (s4 10) ++ (wX3 cA (ad 11) (s4 11))))))))))))) (perm_of (fun c hc => by unfold wX7 wX7b; simp only [hc]; omega)) hP) 0 4 rfl rfl) hK hP hD hS hA (perm_of (fun c hc => by unfold wX7 wX7b; simp only [hc]; omega)) (perm_of (fun c hc => by rw [show wX7 cA ad (sX s4 9 z5) = wX7b cA ad (s4 0) (s4 1) (s4 2) (s4 3) (s4 4) (s4 5) (s4 6) (s4 7) (s4 8) z5 (s4 10) (s4 11) from rfl]; unfold wX7b; simp only [hc]; omega)) rfl hl.1 rfl (Nat.le_of_ble_eq_true rfl) dX7_lay_49 ⟨(Nat.le_of_ble_eq_true rfl), (Nat.le_of_ble_eq_true rfl)⟩ (fun H locs hP hD hS => ?_)
      obtain ⟨s6, es6⟩ : ∃ z, z = sX s4 9 z5 := ⟨_, rfl⟩
      rw [← es6] at hP hD
      have h := nm_ap es6 h
      refine lv_aload_n hx hb dX7_lay_52 rfl (lv_at hl 0 rfl) ?_
      refine va_get (D := D) (ci := 7) (v := .ref (ad 10 0)) (C := RX7) (T := TX7) (N := 12) hx hb hts hinX7 hown hK.1 hP 0 rfl rfl 10 (by decide) lkf69 (fun _ h9 => h9) rfl dX7_lay_53 ?_
      obtain ⟨z7, hz7, h⟩ := bd_some h
      refine pV_V (As := []) (rest := []) (wr := (tX7 ad (s6 6) ++ (wX5 cA (ad 0) (s6 0) ++ (wX2 cA (ad 1) (s6 1) ++ (wX6 cA (ad 2) (s6 2) ++ (wX6 cA (ad 3) (s6 3) ++ (wX6 cA (ad 4) (s6 4) ++ (wX6 cA (ad 5) (s6 5) ++ (wX1 cA (ad 7) (s6 7) ++ (wX0 cA (ad 8) (ad 2 0) (s6 8) ++ (wX4 cA (ad 9) (s6 9) ++ (wX3 cA (ad 11) (s6 11))))))))))))) (wn := (wX7 cA ad (sX s6 10 z7))) ⟨hx, hb, hml, hown, hts⟩ (c_X3_empty l D cA (ad 10) (s6 10)   z7 hz7) (cwV 0 hts gX7_lay_X3_empty rfl rfl rfl hd_X3_empty ⟨(Nat.le_of_ble_eq_true rfl), (Nat.le_of_ble_eq_true rfl)⟩) (recvK hK (P_left (wc := wX3 cA (ad 10) (s6 10)) (R := (tX7 ad (s6 6) ++ (wX5 cA (ad 0) (s6 0) ++ (wX2 cA (ad 1) (s6 1) ++ (wX6 cA (ad 2) (s6 2) ++ (wX6 cA (ad 3) (s6 3) ++ (wX6 cA (ad 4) (s6 4) ++ (wX6 cA (ad 5) (s6 5) ++ (wX1 cA (ad 7) (s6 7) ++ (wX0 cA (ad 8) (ad 2 0) (s6 8) ++ (wX4 cA (ad 9) (s6 9) ++ (wX3 cA (ad 11) (s6 11))))))))))))) (perm_of (fun c hc => by unfold wX7 wX7b; simp only [hc]; omega)) hP) 0 3 rfl rfl) hK hP hD hS hA (perm_of (fun c hc => by unfold wX7 wX7b; simp only [hc]; omega)) (perm_of (fun c hc => by rw [show wX7 cA ad (sX s6 10 z7) = wX7b cA ad (s6 0) (s6 1) (s6 2) (s6 3) (s6 4) (s6 5) (s6 6) (s6 7) (s6 8) (s6 9) z7 (s6 11) from rfl]; unfold wX7b; simp only [hc]; omega)) rfl hl.1 rfl (Nat.le_of_ble_eq_true rfl) dX7_lay_56 ⟨(Nat.le_of_ble_eq_true rfl), (Nat.le_of_ble_eq_true rfl)⟩ (fun H locs hP hD hS => ?_)
      obtain ⟨s8, es8⟩ : ∃ z, z = sX s6 10 z7 := ⟨_, rfl⟩
      rw [← es8] at hP hD
      have h := nm_ap es8 h
      refine lv_aload_n hx hb dX7_lay_59 rfl (lv_at hl 0 rfl) ?_
      refine va_get (D := D) (ci := 7) (v := .ref (ad 11 0)) (C := RX7) (T := TX7) (N := 12) hx hb hts hinX7 hown hK.1 hP 0 rfl rfl 11 (by decide) lkf73 (fun _ h9 => h9) rfl dX7_lay_60 ?_
      obtain ⟨z9, hz9, h⟩ := bd_some h
      refine pV_V (As := []) (rest := []) (wr := (tX7 ad (s8 6) ++ (wX5 cA (ad 0) (s8 0) ++ (wX2 cA (ad 1) (s8 1) ++ (wX6 cA (ad 2) (s8 2) ++ (wX6 cA (ad 3) (s8 3) ++ (wX6 cA (ad 4) (s8 4) ++ (wX6 cA (ad 5) (s8 5) ++ (wX1 cA (ad 7) (s8 7) ++ (wX0 cA (ad 8) (ad 2 0) (s8 8) ++ (wX4 cA (ad 9) (s8 9) ++ (wX3 cA (ad 10) (s8 10))))))))))))) (wn := (wX7 cA ad (sX s8 11 z9))) ⟨hx, hb, hml, hown, hts⟩ (c_X3_empty l D cA (ad 11) (s8 11)   z9 hz9) (cwV 0 hts gX7_lay_X3_empty rfl rfl rfl hd_X3_empty ⟨(Nat.le_of_ble_eq_true rfl), (Nat.le_of_ble_eq_true rfl)⟩) (recvK hK (P_left (wc := wX3 cA (ad 11) (s8 11)) (R := (tX7 ad (s8 6) ++ (wX5 cA (ad 0) (s8 0) ++ (wX2 cA (ad 1) (s8 1) ++ (wX6 cA (ad 2) (s8 2) ++ (wX6 cA (ad 3) (s8 3) ++ (wX6 cA (ad 4) (s8 4) ++ (wX6 cA (ad 5) (s8 5) ++ (wX1 cA (ad 7) (s8 7) ++ (wX0 cA (ad 8) (ad 2 0) (s8 8) ++ (wX4 cA (ad 9) (s8 9) ++ (wX3 cA (ad 10) (s8 10))))))))))))) (perm_of (fun c hc => by unfold wX7 wX7b; simp only [hc]; omega)) hP) 0 3 rfl rfl) hK hP hD hS hA (perm_of (fun c hc => by unfold wX7 wX7b; simp only [hc]; omega)) (perm_of (fun c hc => by rw [show wX7 cA ad (sX s8 11 z9) = wX7b cA ad (s8 0) (s8 1) (s8 2) (s8 3) (s8 4) (s8 5) (s8 6) (s8 7) (s8 8) (s8 9) (s8 10) z9 from rfl]; unfold wX7b; simp only [hc]; omega)) rfl hl.1 rfl (Nat.le_of_ble_eq_true rfl) dX7_lay_63 ⟨(Nat.le_of_ble_eq_true rfl), (Nat.le_of_ble_eq_true rfl)⟩ (fun H locs hP hD hS => ?_)
      obtain ⟨s10, es10⟩ : ∃ z, z = sX s8 11 z9 := ⟨_, rfl⟩
      rw [← es10] at hP hD
      have h := nm_ap es10 h
      refine lv_aload_n hx hb dX7_lay_66 rfl (lv_at hl 0 rfl) ?_
      refine va_get (D := D) (ci := 7) (v := .ref (ad 7 0)) (C := RX7) (T := TX7) (N := 12) hx hb hts hinX7 hown hK.1 hP 0 rfl rfl 7 (by decide) lkf46 (fun _ h9 => h9) rfl dX7_lay_67 ?_
      obtain ⟨z11, hz11, h⟩ := bd_some h
      refine pV_V (As := []) (rest := []) (wr := (tX7 ad (s10 6) ++ (wX5 cA (ad 0) (s10 0) ++ (wX2 cA (ad 1) (s10 1) ++ (wX6 cA (ad 2) (s10 2) ++ (wX6 cA (ad 3) (s10 3) ++ (wX6 cA (ad 4) (s10 4) ++ (wX6 cA (ad 5) (s10 5) ++ (wX0 cA (ad 8) (ad 2 0) (s10 8) ++ (wX4 cA (ad 9) (s10 9) ++ (wX3 cA (ad 10) (s10 10) ++ (wX3 cA (ad 11) (s10 11))))))))))))) (wn := (wX7 cA ad (sX s10 7 z11))) ⟨hx, hb, hml, hown, hts⟩ (c_X1_empty l D cA (ad 7) (s10 7)   z11 hz11) (cwV 0 hts gX7_lay_X1_empty rfl rfl rfl hd_X1_empty ⟨(Nat.le_of_ble_eq_true rfl), (Nat.le_of_ble_eq_true rfl)⟩) (recvK hK (P_left (wc := wX1 cA (ad 7) (s10 7)) (R := (tX7 ad (s10 6) ++ (wX5 cA (ad 0) (s10 0) ++ (wX2 cA (ad 1) (s10 1) ++ (wX6 cA (ad 2) (s10 2) ++ (wX6 cA (ad 3) (s10 3) ++ (wX6 cA (ad 4) (s10 4) ++ (wX6 cA (ad 5) (s10 5) ++ (wX0 cA (ad 8) (ad 2 0) (s10 8) ++ (wX4 cA (ad 9) (s10 9) ++ (wX3 cA (ad 10) (s10 10) ++ (wX3 cA (ad 11) (s10 11))))))))))))) (perm_of (fun c hc => by unfold wX7 wX7b; simp only [hc]; omega)) hP) 0 1 rfl rfl) hK hP hD hS hA (perm_of (fun c hc => by unfold wX7 wX7b; simp only [hc]; omega)) (perm_of (fun c hc => by rw [show wX7 cA ad (sX s10 7 z11) = wX7b cA ad (s10 0) (s10 1) (s10 2) (s10 3) (s10 4) (s10 5) (s10 6) z11 (s10 8) (s10 9) (s10 10) (s10 11) from rfl]; unfold wX7b; simp only [hc]; omega)) rfl hl.1 rfl (Nat.le_of_ble_eq_true rfl) dX7_lay_70 ⟨(Nat.le_of_ble_eq_true rfl), (Nat.le_of_ble_eq_true rfl)⟩ (fun H locs hP hD hS => ?_)
      obtain ⟨s12, es12⟩ : ∃ z, z = sX s10 7 z11 := ⟨_, rfl⟩
      rw [← es12] at hP hD
      have h := nm_ap es12 h
      refine lv_aload_n hx hb dX7_lay_73 rfl (lv_at hl 0 rfl) ?_
      refine lv_iconst (v := (0 : Int32)) hx hb dX7_lay_74 (by decide) ?_
      refine va_put (D := D) (ci := 7) (v := .int (0 : Int32)) (ty := .int) (C := RX7) (T := TX7) (N := 12) hx hb hts hinX7 tyX7 tyX7_ok nmX7 hown hK.1 hP hD hS 0 rfl rfl 6 (by decide) lkf39 (fun _ h9 => h9) rfl (by decide +kernel) rfl rfl (Nat.le_of_ble_eq_true rfl) dX7_lay_75 (fun H locs hP hD hS => ?_)
      have hP : va_P D vwCl (wX7 cA ad (sX s12 6 (sF (s12 6) 6 (0 : Int32)))) H := hP
      have hD : va_D A (wX7 cA ad (sX s12 6 (sF (s12 6) 6 (0 : Int32)))) := hD
      obtain ⟨s13, es13⟩ : ∃ z, z = sX s12 6 (sF (s12 6) 6 (0 : Int32)) := ⟨_, rfl⟩
      rw [← es13] at hP hD
      have h := nm_ap es13 h
      refine lv_aload_n hx hb dX7_lay_78 rfl (lv_at hl 0 rfl) ?_
      refine va_get (D := D) (ci := 7) (v := .ref (ad 2 0)) (C := RX7) (T := TX7) (N := 12) hx hb hts hinX7 hown hK.1 hP 0 rfl rfl 2 (by decide) lkf26 (fun _ h9 => h9) rfl dX7_lay_79 ?_
      refine va_getN (D := D) (ci := 6) (v := .int ((s13 2).1 9)) (C := RX6) (T := TX6) (N := 12) hx hb hts hinX6 hown hK.1 (P_left (wc := wX6 cA (ad 2) (s13 2)) (R := (tX7 ad (s13 6) ++ (wX5 cA (ad 0) (s13 0) ++ (wX2 cA (ad 1) (s13 1) ++ (wX6 cA (ad 3) (s13 3) ++ (wX6 cA (ad 4) (s13 4) ++ (wX6 cA (ad 5) (s13 5) ++ (wX1 cA (ad 7) (s13 7) ++ (wX0 cA (ad 8) (ad 2 0) (s13 8) ++ (wX4 cA (ad 9) (s13 9) ++ (wX3 cA (ad 10) (s13 10) ++ (wX3 cA (ad 11) (s13 11))))))))))))) (perm_of (fun c hc => by unfold wX7 wX7b; simp only [hc]; omega)) hP) 0 rfl rfl 9 (by decide) lkf99 (fun _ h9 => h9) rfl dX7_lay_82 ?_
      cases h
      exact hend _ _ _ _ hP hD hS dX7_lay_85
    · have h := if_f hc h
      refine lv_bipush (v := (-2 : Int32)) hx hb dX7_lay_31 (by decide) ?_
      cases h
      exact hend _ _ _ _ hP hD hS dX7_lay_33
abbrev rmX7_knot : Room := ({ frames := 2, cells := 0, slots := 0, locals := 44 } : Room)
set_option maxHeartbeats 4000000 in
set_option maxRecDepth 100000 in
theorem c_X7_knot (l : Launch) (D : va_G) (cA : ClassId) (ad : (Nat → Nat → Nat)) (X : (Nat → Ob)) (x1 : Int32) (x2 : Int32) (r : Int32) (h : f_X7_knot X x1 x2 = some r) : ConR l yX7_knot wsX7_knot rmX7_knot D cA [.ref (ad 6 0), .int x1, .int x2] (wX7 cA ad X) r := by
  refine ConR.enter (cc := cX7_knot) (maxL := 3) (by decide) rfl (Nat.le_of_ble_eq_true rfl) ?_
  intro p e s m args below meth c Q hx hb hml hown hts hK hP  hend ls hl
  have hl : lv_has ls 3 [(0, .ref (ad 6 0)), (1, .int x1), (2, .int x2)] := hl
  unfold f_X7_knot at h
  have lkf26 := hts (.fieldLink RX7 26 "TiedToTown" "town" "LTiedToTown$Town;") (List.mem_of_getElem? (i := 1) rfl)
  have hinX7 : ∀ w ∈ wsX70, w ∈ wsX7_knot := fun w h => List.mem_cons_of_mem _ (List.mem_append_left _ (List.mem_append_right _ h))
  have lkf111 := va_Nw.use (w := Cond.fieldLinkNest RX7 111 "TiedToTown$Town" "first" "[I" "TiedToTown") rfl (A := args) (hK.2 _ (List.mem_of_getElem? (i := 3) rfl))
  have hinX6 : ∀ w ∈ wsX60, w ∈ wsX7_knot := fun w h => List.mem_cons_of_mem _ (List.mem_append_right _ h)
  have lkf115 := va_Nw.use (w := Cond.fieldLinkNest RX7 115 "TiedToTown$Town" "second" "[I" "TiedToTown") rfl (A := args) (hK.2 _ (List.mem_of_getElem? (i := 4) rfl))
  have lkf118 := va_Nw.use (w := Cond.fieldLinkNest RX7 118 "TiedToTown$Town" "through" "[I" "TiedToTown") rfl (A := args) (hK.2 _ (List.mem_of_getElem? (i := 6) rfl))
  have lkf121 := va_Nw.use (w := Cond.fieldLinkNest RX7 121 "TiedToTown$Town" "due" "[I" "TiedToTown") rfl (A := args) (hK.2 _ (List.mem_of_getElem? (i := 9) rfl))
  have lkf124 := va_Nw.use (w := Cond.fieldLinkNest RX7 124 "TiedToTown$Town" "kind" "[I" "TiedToTown") rfl (A := args) (hK.2 _ (List.mem_of_getElem? (i := 10) rfl))
  have lkf127 := va_Nw.use (w := Cond.fieldLinkNest RX7 127 "TiedToTown$Town" "tied" "I" "TiedToTown") rfl (A := args) (hK.2 _ (List.mem_of_getElem? (i := 20) rfl))
  refine lv_aload_n hx hb dX7_knot_0 rfl (lv_at hl 0 rfl) ?_
  refine va_get (D := D) (ci := 7) (v := .ref (ad 2 0)) (C := RX7) (T := TX7) (N := 12) hx hb hts hinX7 hown hK.1 hP 0 rfl rfl 2 (by decide) lkf26 (fun _ h9 => h9) rfl dX7_knot_1 ?_
  refine lv_iload_n hx hb dX7_knot_4 rfl (lv_at hl 1 rfl) ?_
  obtain ⟨z1, hz1, h⟩ := bd_some h
  refine pR_V (As := [.int x1]) (rest := []) (wr := (tX7 ad (X 6) ++ (wX5 cA (ad 0) (X 0) ++ (wX2 cA (ad 1) (X 1) ++ (wX6 cA (ad 3) (X 3) ++ (wX6 cA (ad 4) (X 4) ++ (wX6 cA (ad 5) (X 5) ++ (wX1 cA (ad 7) (X 7) ++ (wX0 cA (ad 8) (ad 2 0) (X 8) ++ (wX4 cA (ad 9) (X 9) ++ (wX3 cA (ad 10) (X 10) ++ (wX3 cA (ad 11) (X 11))))))))))))) ⟨hx, hb, hml, hown, hts⟩ (c_X6_isKnot l D cA (ad 2) (X 2) x1 z1 hz1) (cwV 1 hts gX7_knot_X6_isKnot rfl rfl rfl hd_X6_isKnot ⟨(Nat.le_of_ble_eq_true rfl), (Nat.le_of_ble_eq_true rfl)⟩) (recvK hK (P_left (wc := wX6 cA (ad 2) (X 2)) (R := (tX7 ad (X 6) ++ (wX5 cA (ad 0) (X 0) ++ (wX2 cA (ad 1) (X 1) ++ (wX6 cA (ad 3) (X 3) ++ (wX6 cA (ad 4) (X 4) ++ (wX6 cA (ad 5) (X 5) ++ (wX1 cA (ad 7) (X 7) ++ (wX0 cA (ad 8) (ad 2 0) (X 8) ++ (wX4 cA (ad 9) (X 9) ++ (wX3 cA (ad 10) (X 10) ++ (wX3 cA (ad 11) (X 11))))))))))))) (perm_of (fun c hc => by unfold wX7 wX7b; simp only [hc]; omega)) hP) 0 6 rfl rfl) hK hP (perm_of (fun c hc => by unfold wX7 wX7b; simp only [hc]; omega)) rfl hl.1 rfl (Nat.le_of_ble_eq_true rfl) dX7_knot_5 ⟨(Nat.le_of_ble_eq_true rfl), (Nat.le_of_ble_eq_true rfl)⟩ ?_
  refine lv_if_eq (tgt := 21) hx hb dX7_knot_8 (by decide) (fun hc => ?_) (fun hc => ?_)
  · have h := if_t hc h
    refine lv_iconst (v := (-1 : Int32)) hx hb dX7_knot_21 (by decide) ?_
    cases h
    exact hend _ _ dX7_knot_22
  · have h := if_f hc h
    refine lv_iload_n hx hb dX7_knot_11 rfl (lv_at hl 2 rfl) ?_
    refine lv_if_lt (tgt := 21) hx hb dX7_knot_12 (by decide) (fun hc => ?_) (fun hc => ?_)
    · have h := if_t hc h
      refine lv_iconst (v := (-1 : Int32)) hx hb dX7_knot_21 (by decide) ?_
      cases h
      exact hend _ _ dX7_knot_22
    · have h := if_f hc h
      refine lv_iload_n hx hb dX7_knot_15 rfl (lv_at hl 2 rfl) ?_
      refine lv_bipush (v := (6 : Int32)) hx hb dX7_knot_16 (by decide) ?_
      refine lv_icmp_le (tgt := 23) hx hb dX7_knot_18 (by decide) (fun hc => ?_) (fun hc => ?_)
      · have h := if_t hc h
        refine lv_iload_n hx hb dX7_knot_23 rfl (lv_at hl 2 rfl) ?_
        by_cases hc2 : x2 = (0 : Int32)
        · have h := if_t hc2 h
          refine lv_tableIn (off := 40) (tgt := 64) hx hb dX7_knot_24 (by rw [hc2]; decide) (by rw [hc2]; decide) (by rw [hc2]; decide) (by decide) ?_
          refine lv_aload_n hx hb dX7_knot_64 rfl (lv_at hl 0 rfl) ?_
          refine va_get (D := D) (ci := 7) (v := .ref (ad 2 0)) (C := RX7) (T := TX7) (N := 12) hx hb hts hinX7 hown hK.1 hP 0 rfl rfl 2 (by decide) lkf26 (fun _ h9 => h9) rfl dX7_knot_65 ?_
          refine va_getN (D := D) (ci := 6) (v := .ref (ad 2 1)) (C := RX6) (T := TX6) (N := 12) hx hb hts hinX6 hown hK.1 (P_left (wc := wX6 cA (ad 2) (X 2)) (R := (tX7 ad (X 6) ++ (wX5 cA (ad 0) (X 0) ++ (wX2 cA (ad 1) (X 1) ++ (wX6 cA (ad 3) (X 3) ++ (wX6 cA (ad 4) (X 4) ++ (wX6 cA (ad 5) (X 5) ++ (wX1 cA (ad 7) (X 7) ++ (wX0 cA (ad 8) (ad 2 0) (X 8) ++ (wX4 cA (ad 9) (X 9) ++ (wX3 cA (ad 10) (X 10) ++ (wX3 cA (ad 11) (X 11))))))))))))) (perm_of (fun c hc => by unfold wX7 wX7b; simp only [hc]; omega)) hP) 0 rfl rfl 0 (by decide) lkf111 (fun _ h9 => h9) rfl dX7_knot_68 ?_
          refine lv_iload_n hx hb dX7_knot_71 rfl (lv_at hl 1 rfl) ?_
          obtain ⟨hi3, h⟩ := gd_some h
          refine iald (q0 := 0) (t0 := 0) (j := x1.toNatClampNeg) hx hb hK (P_left (wc := wX6 cA (ad 2) (X 2)) (R := (tX7 ad (X 6) ++ (wX5 cA (ad 0) (X 0) ++ (wX2 cA (ad 1) (X 1) ++ (wX6 cA (ad 3) (X 3) ++ (wX6 cA (ad 4) (X 4) ++ (wX6 cA (ad 5) (X 5) ++ (wX1 cA (ad 7) (X 7) ++ (wX0 cA (ad 8) (ad 2 0) (X 8) ++ (wX4 cA (ad 9) (X 9) ++ (wX3 cA (ad 10) (X 10) ++ (wX3 cA (ad 11) (X 11))))))))))))) (perm_of (fun c hc => by unfold wX7 wX7b; simp only [hc]; omega)) hP) 1 rfl rfl (ck_in hi3) dX7_knot_72 ?_
          cases h
          exact hend _ _ dX7_knot_73
        have h := if_f hc2 h
        by_cases hc4 : x2 = (1 : Int32)
        · have h := if_t hc4 h
          refine lv_tableIn (off := 50) (tgt := 74) hx hb dX7_knot_24 (by rw [hc4]; decide) (by rw [hc4]; decide) (by rw [hc4]; decide) (by decide) ?_
          refine lv_aload_n hx hb dX7_knot_74 rfl (lv_at hl 0 rfl) ?_
          refine va_get (D := D) (ci := 7) (v := .ref (ad 2 0)) (C := RX7) (T := TX7) (N := 12) hx hb hts hinX7 hown hK.1 hP 0 rfl rfl 2 (by decide) lkf26 (fun _ h9 => h9) rfl dX7_knot_75 ?_
          refine va_getN (D := D) (ci := 6) (v := .ref (ad 2 2)) (C := RX6) (T := TX6) (N := 12) hx hb hts hinX6 hown hK.1 (P_left (wc := wX6 cA (ad 2) (X 2)) (R := (tX7 ad (X 6) ++ (wX5 cA (ad 0) (X 0) ++ (wX2 cA (ad 1) (X 1) ++ (wX6 cA (ad 3) (X 3) ++ (wX6 cA (ad 4) (X 4) ++ (wX6 cA (ad 5) (X 5) ++ (wX1 cA (ad 7) (X 7) ++ (wX0 cA (ad 8) (ad 2 0) (X 8) ++ (wX4 cA (ad 9) (X 9) ++ (wX3 cA (ad 10) (X 10) ++ (wX3 cA (ad 11) (X 11))))))))))))) (perm_of (fun c hc => by unfold wX7 wX7b; simp only [hc]; omega)) hP) 0 rfl rfl 1 (by decide) lkf115 (fun _ h9 => h9) rfl dX7_knot_78 ?_
          refine lv_iload_n hx hb dX7_knot_81 rfl (lv_at hl 1 rfl) ?_
          obtain ⟨hi5, h⟩ := gd_some h
          refine iald (q0 := 0) (t0 := 0) (j := x1.toNatClampNeg) hx hb hK (P_left (wc := wX6 cA (ad 2) (X 2)) (R := (tX7 ad (X 6) ++ (wX5 cA (ad 0) (X 0) ++ (wX2 cA (ad 1) (X 1) ++ (wX6 cA (ad 3) (X 3) ++ (wX6 cA (ad 4) (X 4) ++ (wX6 cA (ad 5) (X 5) ++ (wX1 cA (ad 7) (X 7) ++ (wX0 cA (ad 8) (ad 2 0) (X 8) ++ (wX4 cA (ad 9) (X 9) ++ (wX3 cA (ad 10) (X 10) ++ (wX3 cA (ad 11) (X 11))))))))))))) (perm_of (fun c hc => by unfold wX7 wX7b; simp only [hc]; omega)) hP) 2 rfl rfl (ck_in hi5) dX7_knot_82 ?_
          cases h
          exact hend _ _ dX7_knot_83
        have h := if_f hc4 h
        by_cases hc6 : x2 = (2 : Int32)
        · have h := if_t hc6 h
          refine lv_tableIn (off := 60) (tgt := 84) hx hb dX7_knot_24 (by rw [hc6]; decide) (by rw [hc6]; decide) (by rw [hc6]; decide) (by decide) ?_
          refine lv_aload_n hx hb dX7_knot_84 rfl (lv_at hl 0 rfl) ?_
          refine va_get (D := D) (ci := 7) (v := .ref (ad 2 0)) (C := RX7) (T := TX7) (N := 12) hx hb hts hinX7 hown hK.1 hP 0 rfl rfl 2 (by decide) lkf26 (fun _ h9 => h9) rfl dX7_knot_85 ?_
          refine va_getN (D := D) (ci := 6) (v := .ref (ad 2 4)) (C := RX6) (T := TX6) (N := 12) hx hb hts hinX6 hown hK.1 (P_left (wc := wX6 cA (ad 2) (X 2)) (R := (tX7 ad (X 6) ++ (wX5 cA (ad 0) (X 0) ++ (wX2 cA (ad 1) (X 1) ++ (wX6 cA (ad 3) (X 3) ++ (wX6 cA (ad 4) (X 4) ++ (wX6 cA (ad 5) (X 5) ++ (wX1 cA (ad 7) (X 7) ++ (wX0 cA (ad 8) (ad 2 0) (X 8) ++ (wX4 cA (ad 9) (X 9) ++ (wX3 cA (ad 10) (X 10) ++ (wX3 cA (ad 11) (X 11))))))))))))) (perm_of (fun c hc => by unfold wX7 wX7b; simp only [hc]; omega)) hP) 0 rfl rfl 3 (by decide) lkf118 (fun _ h9 => h9) rfl dX7_knot_88 ?_
          refine lv_iload_n hx hb dX7_knot_91 rfl (lv_at hl 1 rfl) ?_
          obtain ⟨hi7, h⟩ := gd_some h
          refine iald (q0 := 0) (t0 := 0) (j := x1.toNatClampNeg) hx hb hK (P_left (wc := wX6 cA (ad 2) (X 2)) (R := (tX7 ad (X 6) ++ (wX5 cA (ad 0) (X 0) ++ (wX2 cA (ad 1) (X 1) ++ (wX6 cA (ad 3) (X 3) ++ (wX6 cA (ad 4) (X 4) ++ (wX6 cA (ad 5) (X 5) ++ (wX1 cA (ad 7) (X 7) ++ (wX0 cA (ad 8) (ad 2 0) (X 8) ++ (wX4 cA (ad 9) (X 9) ++ (wX3 cA (ad 10) (X 10) ++ (wX3 cA (ad 11) (X 11))))))))))))) (perm_of (fun c hc => by unfold wX7 wX7b; simp only [hc]; omega)) hP) 4 rfl rfl (ck_in hi7) dX7_knot_92 ?_
          cases h
          exact hend _ _ dX7_knot_93
        have h := if_f hc6 h
        by_cases hc8 : x2 = (3 : Int32)
        · have h := if_t hc8 h
          refine lv_tableIn (off := 70) (tgt := 94) hx hb dX7_knot_24 (by rw [hc8]; decide) (by rw [hc8]; decide) (by rw [hc8]; decide) (by decide) ?_
          refine lv_aload_n hx hb dX7_knot_94 rfl (lv_at hl 0 rfl) ?_
          refine va_get (D := D) (ci := 7) (v := .ref (ad 2 0)) (C := RX7) (T := TX7) (N := 12) hx hb hts hinX7 hown hK.1 hP 0 rfl rfl 2 (by decide) lkf26 (fun _ h9 => h9) rfl dX7_knot_95 ?_
          refine va_getN (D := D) (ci := 6) (v := .ref (ad 2 5)) (C := RX6) (T := TX6) (N := 12) hx hb hts hinX6 hown hK.1 (P_left (wc := wX6 cA (ad 2) (X 2)) (R := (tX7 ad (X 6) ++ (wX5 cA (ad 0) (X 0) ++ (wX2 cA (ad 1) (X 1) ++ (wX6 cA (ad 3) (X 3) ++ (wX6 cA (ad 4) (X 4) ++ (wX6 cA (ad 5) (X 5) ++ (wX1 cA (ad 7) (X 7) ++ (wX0 cA (ad 8) (ad 2 0) (X 8) ++ (wX4 cA (ad 9) (X 9) ++ (wX3 cA (ad 10) (X 10) ++ (wX3 cA (ad 11) (X 11))))))))))))) (perm_of (fun c hc => by unfold wX7 wX7b; simp only [hc]; omega)) hP) 0 rfl rfl 4 (by decide) lkf121 (fun _ h9 => h9) rfl dX7_knot_98 ?_
          refine lv_iload_n hx hb dX7_knot_101 rfl (lv_at hl 1 rfl) ?_
          obtain ⟨hi9, h⟩ := gd_some h
          refine iald (q0 := 0) (t0 := 0) (j := x1.toNatClampNeg) hx hb hK (P_left (wc := wX6 cA (ad 2) (X 2)) (R := (tX7 ad (X 6) ++ (wX5 cA (ad 0) (X 0) ++ (wX2 cA (ad 1) (X 1) ++ (wX6 cA (ad 3) (X 3) ++ (wX6 cA (ad 4) (X 4) ++ (wX6 cA (ad 5) (X 5) ++ (wX1 cA (ad 7) (X 7) ++ (wX0 cA (ad 8) (ad 2 0) (X 8) ++ (wX4 cA (ad 9) (X 9) ++ (wX3 cA (ad 10) (X 10) ++ (wX3 cA (ad 11) (X 11))))))))))))) (perm_of (fun c hc => by unfold wX7 wX7b; simp only [hc]; omega)) hP) 5 rfl rfl (ck_in hi9) dX7_knot_102 ?_
          cases h
          exact hend _ _ dX7_knot_103
        have h := if_f hc8 h
        by_cases hc10 : x2 = (4 : Int32)
        · have h := if_t hc10 h
          refine lv_tableIn (off := 80) (tgt := 104) hx hb dX7_knot_24 (by rw [hc10]; decide) (by rw [hc10]; decide) (by rw [hc10]; decide) (by decide) ?_
          refine lv_aload_n hx hb dX7_knot_104 rfl (lv_at hl 0 rfl) ?_
          refine va_get (D := D) (ci := 7) (v := .ref (ad 2 0)) (C := RX7) (T := TX7) (N := 12) hx hb hts hinX7 hown hK.1 hP 0 rfl rfl 2 (by decide) lkf26 (fun _ h9 => h9) rfl dX7_knot_105 ?_
          refine va_getN (D := D) (ci := 6) (v := .ref (ad 2 6)) (C := RX6) (T := TX6) (N := 12) hx hb hts hinX6 hown hK.1 (P_left (wc := wX6 cA (ad 2) (X 2)) (R := (tX7 ad (X 6) ++ (wX5 cA (ad 0) (X 0) ++ (wX2 cA (ad 1) (X 1) ++ (wX6 cA (ad 3) (X 3) ++ (wX6 cA (ad 4) (X 4) ++ (wX6 cA (ad 5) (X 5) ++ (wX1 cA (ad 7) (X 7) ++ (wX0 cA (ad 8) (ad 2 0) (X 8) ++ (wX4 cA (ad 9) (X 9) ++ (wX3 cA (ad 10) (X 10) ++ (wX3 cA (ad 11) (X 11))))))))))))) (perm_of (fun c hc => by unfold wX7 wX7b; simp only [hc]; omega)) hP) 0 rfl rfl 5 (by decide) lkf124 (fun _ h9 => h9) rfl dX7_knot_108 ?_
          refine lv_iload_n hx hb dX7_knot_111 rfl (lv_at hl 1 rfl) ?_
          obtain ⟨hi11, h⟩ := gd_some h
          refine iald (q0 := 0) (t0 := 0) (j := x1.toNatClampNeg) hx hb hK (P_left (wc := wX6 cA (ad 2) (X 2)) (R := (tX7 ad (X 6) ++ (wX5 cA (ad 0) (X 0) ++ (wX2 cA (ad 1) (X 1) ++ (wX6 cA (ad 3) (X 3) ++ (wX6 cA (ad 4) (X 4) ++ (wX6 cA (ad 5) (X 5) ++ (wX1 cA (ad 7) (X 7) ++ (wX0 cA (ad 8) (ad 2 0) (X 8) ++ (wX4 cA (ad 9) (X 9) ++ (wX3 cA (ad 10) (X 10) ++ (wX3 cA (ad 11) (X 11))))))))))))) (perm_of (fun c hc => by unfold wX7 wX7b; simp only [hc]; omega)) hP) 6 rfl rfl (ck_in hi11) dX7_knot_112 ?_
          cases h
          exact hend _ _ dX7_knot_113
        have h := if_f hc10 h
        by_cases hc12 : x2 = (5 : Int32)
        · have h := if_t hc12 h
          refine lv_tableIn (off := 90) (tgt := 114) hx hb dX7_knot_24 (by rw [hc12]; decide) (by rw [hc12]; decide) (by rw [hc12]; decide) (by decide) ?_
          refine lv_aload_n hx hb dX7_knot_114 rfl (lv_at hl 0 rfl) ?_
          refine va_get (D := D) (ci := 7) (v := .ref (ad 2 0)) (C := RX7) (T := TX7) (N := 12) hx hb hts hinX7 hown hK.1 hP 0 rfl rfl 2 (by decide) lkf26 (fun _ h9 => h9) rfl dX7_knot_115 ?_
          refine va_getN (D := D) (ci := 6) (v := .int ((X 2).1 10)) (C := RX6) (T := TX6) (N := 12) hx hb hts hinX6 hown hK.1 (P_left (wc := wX6 cA (ad 2) (X 2)) (R := (tX7 ad (X 6) ++ (wX5 cA (ad 0) (X 0) ++ (wX2 cA (ad 1) (X 1) ++ (wX6 cA (ad 3) (X 3) ++ (wX6 cA (ad 4) (X 4) ++ (wX6 cA (ad 5) (X 5) ++ (wX1 cA (ad 7) (X 7) ++ (wX0 cA (ad 8) (ad 2 0) (X 8) ++ (wX4 cA (ad 9) (X 9) ++ (wX3 cA (ad 10) (X 10) ++ (wX3 cA (ad 11) (X 11))))))))))))) (perm_of (fun c hc => by unfold wX7 wX7b; simp only [hc]; omega)) hP) 0 rfl rfl 10 (by decide) lkf127 (fun _ h9 => h9) rfl dX7_knot_118 ?_
          refine lv_iload_n hx hb dX7_knot_121 rfl (lv_at hl 1 rfl) ?_
          obtain ⟨z13, hz13, h⟩ := bd_some h
          refine cR_S (As := [.int ((X 2).1 10), .int x1]) (rest := []) ⟨hx, hb, hml, hown, hts⟩ (c_X7_has l D cA  ((X 2).1 10) x1 z13 hz13) (va_cwS 2 hts gX7_knot_X7_has rfl rfl rfl hd_X7_has.2 ⟨(Nat.le_of_ble_eq_true rfl), (Nat.le_of_ble_eq_true rfl)⟩) hK hP [] rfl rfl hl.1 rfl (Nat.le_of_ble_eq_true rfl) dX7_knot_122 ⟨(Nat.le_of_ble_eq_true rfl), (Nat.le_of_ble_eq_true rfl)⟩ ?_
          obtain ⟨z14, hz14, h⟩ := bd_some h
          refine cR_S (As := [.int z13]) (rest := []) ⟨hx, hb, hml, hown, hts⟩ (c_X7_asNumber l D cA  z13 z14 hz14) (va_cwS 1 hts gX7_knot_X7_asNumber rfl rfl rfl hd_X7_asNumber.2 ⟨(Nat.le_of_ble_eq_true rfl), (Nat.le_of_ble_eq_true rfl)⟩) hK hP [] rfl rfl hl.1 rfl (Nat.le_of_ble_eq_true rfl) dX7_knot_125 ⟨(Nat.le_of_ble_eq_true rfl), (Nat.le_of_ble_eq_true rfl)⟩ ?_
          cases h
          exact hend _ _ dX7_knot_128
        have h := if_f hc12 h
        refine lv_tableOut (tgt := 129) hx hb dX7_knot_24 (sw_out5 hc2 hc4 hc6 hc8 hc10 hc12) (by decide) ?_
        refine lv_aload_n hx hb dX7_knot_129 rfl (lv_at hl 0 rfl) ?_
        refine va_get (D := D) (ci := 7) (v := .ref (ad 2 0)) (C := RX7) (T := TX7) (N := 12) hx hb hts hinX7 hown hK.1 hP 0 rfl rfl 2 (by decide) lkf26 (fun _ h9 => h9) rfl dX7_knot_130 ?_
        refine lv_iload_n hx hb dX7_knot_133 rfl (lv_at hl 1 rfl) ?_
        obtain ⟨z15, hz15, h⟩ := bd_some h
        refine pR_V (As := [.int x1]) (rest := []) (wr := (tX7 ad (X 6) ++ (wX5 cA (ad 0) (X 0) ++ (wX2 cA (ad 1) (X 1) ++ (wX6 cA (ad 3) (X 3) ++ (wX6 cA (ad 4) (X 4) ++ (wX6 cA (ad 5) (X 5) ++ (wX1 cA (ad 7) (X 7) ++ (wX0 cA (ad 8) (ad 2 0) (X 8) ++ (wX4 cA (ad 9) (X 9) ++ (wX3 cA (ad 10) (X 10) ++ (wX3 cA (ad 11) (X 11))))))))))))) ⟨hx, hb, hml, hown, hts⟩ (c_X6_above l D cA (ad 2) (X 2) x1 z15 hz15) (cwV 1 hts gX7_knot_X6_above rfl rfl rfl hd_X6_above ⟨(Nat.le_of_ble_eq_true rfl), (Nat.le_of_ble_eq_true rfl)⟩) (recvK hK (P_left (wc := wX6 cA (ad 2) (X 2)) (R := (tX7 ad (X 6) ++ (wX5 cA (ad 0) (X 0) ++ (wX2 cA (ad 1) (X 1) ++ (wX6 cA (ad 3) (X 3) ++ (wX6 cA (ad 4) (X 4) ++ (wX6 cA (ad 5) (X 5) ++ (wX1 cA (ad 7) (X 7) ++ (wX0 cA (ad 8) (ad 2 0) (X 8) ++ (wX4 cA (ad 9) (X 9) ++ (wX3 cA (ad 10) (X 10) ++ (wX3 cA (ad 11) (X 11))))))))))))) (perm_of (fun c hc => by unfold wX7 wX7b; simp only [hc]; omega)) hP) 0 6 rfl rfl) hK hP (perm_of (fun c hc => by unfold wX7 wX7b; simp only [hc]; omega)) rfl hl.1 rfl (Nat.le_of_ble_eq_true rfl) dX7_knot_134 ⟨(Nat.le_of_ble_eq_true rfl), (Nat.le_of_ble_eq_true rfl)⟩ ?_
        cases h
        exact hend _ _ dX7_knot_137
      · have h := if_f hc h
        refine lv_iconst (v := (-1 : Int32)) hx hb dX7_knot_21 (by decide) ?_
        cases h
        exact hend _ _ dX7_knot_22
abbrev rmX7_person : Room := ({ frames := 2, cells := 0, slots := 0, locals := 44 } : Room)
set_option maxHeartbeats 4000000 in
set_option maxRecDepth 100000 in
theorem c_X7_person (l : Launch) (D : va_G) (cA : ClassId) (ad : (Nat → Nat → Nat)) (X : (Nat → Ob)) (x1 : Int32) (x2 : Int32) (r : Int32) (h : f_X7_person X x1 x2 = some r) : ConR l yX7_person wsX7_person rmX7_person D cA [.ref (ad 6 0), .int x1, .int x2] (wX7 cA ad X) r := by
  refine ConR.enter (cc := cX7_person) (maxL := 3) (by decide) rfl (Nat.le_of_ble_eq_true rfl) ?_
  intro p e s m args below meth c Q hx hb hml hown hts hK hP  hend ls hl
  have hl : lv_has ls 3 [(0, .ref (ad 6 0)), (1, .int x1), (2, .int x2)] := hl
  unfold f_X7_person at h
  have lkf26 := hts (.fieldLink RX7 26 "TiedToTown" "town" "LTiedToTown$Town;") (List.mem_of_getElem? (i := 1) rfl)
  have hinX7 : ∀ w ∈ wsX70, w ∈ wsX7_person := fun w h => List.mem_cons_of_mem _ (List.mem_append_left _ (List.mem_append_right _ h))
  have lkf145 := va_Nw.use (w := Cond.fieldLinkNest RX7 145 "TiedToTown$Town" "alive" "I" "TiedToTown") rfl (A := args) (hK.2 _ (List.mem_of_getElem? (i := 13) rfl))
  have hinX6 : ∀ w ∈ wsX60, w ∈ wsX7_person := fun w h => List.mem_cons_of_mem _ (List.mem_append_right _ h)
  refine lv_aload_n hx hb dX7_person_0 rfl (lv_at hl 0 rfl) ?_
  refine va_get (D := D) (ci := 7) (v := .ref (ad 2 0)) (C := RX7) (T := TX7) (N := 12) hx hb hts hinX7 hown hK.1 hP 0 rfl rfl 2 (by decide) lkf26 (fun _ h9 => h9) rfl dX7_person_1 ?_
  refine lv_iload_n hx hb dX7_person_4 rfl (lv_at hl 1 rfl) ?_
  obtain ⟨z1, hz1, h⟩ := bd_some h
  refine pR_V (As := [.int x1]) (rest := []) (wr := (tX7 ad (X 6) ++ (wX5 cA (ad 0) (X 0) ++ (wX2 cA (ad 1) (X 1) ++ (wX6 cA (ad 3) (X 3) ++ (wX6 cA (ad 4) (X 4) ++ (wX6 cA (ad 5) (X 5) ++ (wX1 cA (ad 7) (X 7) ++ (wX0 cA (ad 8) (ad 2 0) (X 8) ++ (wX4 cA (ad 9) (X 9) ++ (wX3 cA (ad 10) (X 10) ++ (wX3 cA (ad 11) (X 11))))))))))))) ⟨hx, hb, hml, hown, hts⟩ (c_X6_isPerson l D cA (ad 2) (X 2) x1 z1 hz1) (cwV 1 hts gX7_person_X6_isPerson rfl rfl rfl hd_X6_isPerson ⟨(Nat.le_of_ble_eq_true rfl), (Nat.le_of_ble_eq_true rfl)⟩) (recvK hK (P_left (wc := wX6 cA (ad 2) (X 2)) (R := (tX7 ad (X 6) ++ (wX5 cA (ad 0) (X 0) ++ (wX2 cA (ad 1) (X 1) ++ (wX6 cA (ad 3) (X 3) ++ (wX6 cA (ad 4) (X 4) ++ (wX6 cA (ad 5) (X 5) ++ (wX1 cA (ad 7) (X 7) ++ (wX0 cA (ad 8) (ad 2 0) (X 8) ++ (wX4 cA (ad 9) (X 9) ++ (wX3 cA (ad 10) (X 10) ++ (wX3 cA (ad 11) (X 11))))))))))))) (perm_of (fun c hc => by unfold wX7 wX7b; simp only [hc]; omega)) hP) 0 6 rfl rfl) hK hP (perm_of (fun c hc => by unfold wX7 wX7b; simp only [hc]; omega)) rfl hl.1 rfl (Nat.le_of_ble_eq_true rfl) dX7_person_5 ⟨(Nat.le_of_ble_eq_true rfl), (Nat.le_of_ble_eq_true rfl)⟩ ?_
  refine lv_if_eq (tgt := 20) hx hb dX7_person_8 (by decide) (fun hc => ?_) (fun hc => ?_)
  · have h := if_t hc h
    refine lv_iconst (v := (-1 : Int32)) hx hb dX7_person_20 (by decide) ?_
    cases h
    exact hend _ _ dX7_person_21
  · have h := if_f hc h
    refine lv_iload_n hx hb dX7_person_11 rfl (lv_at hl 2 rfl) ?_
    refine lv_if_lt (tgt := 20) hx hb dX7_person_12 (by decide) (fun hc => ?_) (fun hc => ?_)
    · have h := if_t hc h
      refine lv_iconst (v := (-1 : Int32)) hx hb dX7_person_20 (by decide) ?_
      cases h
      exact hend _ _ dX7_person_21
    · have h := if_f hc h
      refine lv_iload_n hx hb dX7_person_15 rfl (lv_at hl 2 rfl) ?_
      refine lv_iconst (v := (1 : Int32)) hx hb dX7_person_16 (by decide) ?_
      refine lv_icmp_le (tgt := 22) hx hb dX7_person_17 (by decide) (fun hc => ?_) (fun hc => ?_)
      · have h := if_t hc h
        refine lv_iload_n hx hb dX7_person_22 rfl (lv_at hl 2 rfl) ?_
        refine lv_if_ne (tgt := 43) hx hb dX7_person_23 (by decide) (fun hc => ?_) (fun hc => ?_)
        · have h := if_f hc h
          refine lv_aload_n hx hb dX7_person_43 rfl (lv_at hl 0 rfl) ?_
          refine va_get (D := D) (ci := 7) (v := .ref (ad 2 0)) (C := RX7) (T := TX7) (N := 12) hx hb hts hinX7 hown hK.1 hP 0 rfl rfl 2 (by decide) lkf26 (fun _ h9 => h9) rfl dX7_person_44 ?_
          refine lv_iload_n hx hb dX7_person_47 rfl (lv_at hl 1 rfl) ?_
          obtain ⟨z2, hz2, h⟩ := bd_some h
          refine pR_V (As := [.int x1]) (rest := []) (wr := (tX7 ad (X 6) ++ (wX5 cA (ad 0) (X 0) ++ (wX2 cA (ad 1) (X 1) ++ (wX6 cA (ad 3) (X 3) ++ (wX6 cA (ad 4) (X 4) ++ (wX6 cA (ad 5) (X 5) ++ (wX1 cA (ad 7) (X 7) ++ (wX0 cA (ad 8) (ad 2 0) (X 8) ++ (wX4 cA (ad 9) (X 9) ++ (wX3 cA (ad 10) (X 10) ++ (wX3 cA (ad 11) (X 11))))))))))))) ⟨hx, hb, hml, hown, hts⟩ (c_X6_ofPerson l D cA (ad 2) (X 2) x1 z2 hz2) (cwV 1 hts gX7_person_X6_ofPerson rfl rfl rfl hd_X6_ofPerson ⟨(Nat.le_of_ble_eq_true rfl), (Nat.le_of_ble_eq_true rfl)⟩) (recvK hK (P_left (wc := wX6 cA (ad 2) (X 2)) (R := (tX7 ad (X 6) ++ (wX5 cA (ad 0) (X 0) ++ (wX2 cA (ad 1) (X 1) ++ (wX6 cA (ad 3) (X 3) ++ (wX6 cA (ad 4) (X 4) ++ (wX6 cA (ad 5) (X 5) ++ (wX1 cA (ad 7) (X 7) ++ (wX0 cA (ad 8) (ad 2 0) (X 8) ++ (wX4 cA (ad 9) (X 9) ++ (wX3 cA (ad 10) (X 10) ++ (wX3 cA (ad 11) (X 11))))))))))))) (perm_of (fun c hc => by unfold wX7 wX7b; simp only [hc]; omega)) hP) 0 6 rfl rfl) hK hP (perm_of (fun c hc => by unfold wX7 wX7b; simp only [hc]; omega)) rfl hl.1 rfl (Nat.le_of_ble_eq_true rfl) dX7_person_48 ⟨(Nat.le_of_ble_eq_true rfl), (Nat.le_of_ble_eq_true rfl)⟩ ?_
          cases h
          exact hend _ _ dX7_person_51
        · have h := if_t hc h
          refine lv_aload_n hx hb dX7_person_26 rfl (lv_at hl 0 rfl) ?_
          refine va_get (D := D) (ci := 7) (v := .ref (ad 2 0)) (C := RX7) (T := TX7) (N := 12) hx hb hts hinX7 hown hK.1 hP 0 rfl rfl 2 (by decide) lkf26 (fun _ h9 => h9) rfl dX7_person_27 ?_
          refine va_getN (D := D) (ci := 6) (v := .int ((X 2).1 7)) (C := RX6) (T := TX6) (N := 12) hx hb hts hinX6 hown hK.1 (P_left (wc := wX6 cA (ad 2) (X 2)) (R := (tX7 ad (X 6) ++ (wX5 cA (ad 0) (X 0) ++ (wX2 cA (ad 1) (X 1) ++ (wX6 cA (ad 3) (X 3) ++ (wX6 cA (ad 4) (X 4) ++ (wX6 cA (ad 5) (X 5) ++ (wX1 cA (ad 7) (X 7) ++ (wX0 cA (ad 8) (ad 2 0) (X 8) ++ (wX4 cA (ad 9) (X 9) ++ (wX3 cA (ad 10) (X 10) ++ (wX3 cA (ad 11) (X 11))))))))))))) (perm_of (fun c hc => by unfold wX7 wX7b; simp only [hc]; omega)) hP) 0 rfl rfl 7 (by decide) lkf145 (fun _ h9 => h9) rfl dX7_person_30 ?_
          refine lv_iload_n hx hb dX7_person_33 rfl (lv_at hl 1 rfl) ?_
          obtain ⟨z3, hz3, h⟩ := bd_some h
          refine cR_S (As := [.int ((X 2).1 7), .int x1]) (rest := []) ⟨hx, hb, hml, hown, hts⟩ (c_X7_has l D cA  ((X 2).1 7) x1 z3 hz3) (va_cwS 2 hts gX7_person_X7_has rfl rfl rfl hd_X7_has.2 ⟨(Nat.le_of_ble_eq_true rfl), (Nat.le_of_ble_eq_true rfl)⟩) hK hP [] rfl rfl hl.1 rfl (Nat.le_of_ble_eq_true rfl) dX7_person_34 ⟨(Nat.le_of_ble_eq_true rfl), (Nat.le_of_ble_eq_true rfl)⟩ ?_
          obtain ⟨z4, hz4, h⟩ := bd_some h
          refine cR_S (As := [.int z3]) (rest := []) ⟨hx, hb, hml, hown, hts⟩ (c_X7_asNumber l D cA  z3 z4 hz4) (va_cwS 1 hts gX7_person_X7_asNumber rfl rfl rfl hd_X7_asNumber.2 ⟨(Nat.le_of_ble_eq_true rfl), (Nat.le_of_ble_eq_true rfl)⟩) hK hP [] rfl rfl hl.1 rfl (Nat.le_of_ble_eq_true rfl) dX7_person_37 ⟨(Nat.le_of_ble_eq_true rfl), (Nat.le_of_ble_eq_true rfl)⟩ ?_
          refine lv_goto (tgt := 51) hx hb dX7_person_40 (by decide) ?_
          cases h
          exact hend _ _ dX7_person_51
      · have h := if_f hc h
        refine lv_iconst (v := (-1 : Int32)) hx hb dX7_person_20 (by decide) ?_
        cases h
        exact hend _ _ dX7_person_21
abbrev rmX7_may : Room := ({ frames := 4, cells := 0, slots := 0, locals := 92 } : Room)
set_option maxHeartbeats 4000000 in
set_option maxRecDepth 100000 in
theorem c_X7_may (l : Launch) (D : va_G) (cA : ClassId) (ad : (Nat → Nat → Nat)) (X : (Nat → Ob)) (x1 : Int32) (r : Int32) (h : f_X7_may X x1 = some r) : ConR l yX7_may wsX7_may rmX7_may D cA [.ref (ad 6 0), .int x1] (wX7 cA ad X) r := by
  refine ConR.enter (cc := cX7_may) (maxL := 2) (by decide) rfl (Nat.le_of_ble_eq_true rfl) ?_
  intro p e s m args below meth c Q hx hb hml hown hts hK hP  hend ls hl
  have hl : lv_has ls 2 [(0, .ref (ad 6 0)), (1, .int x1)] := hl
  unfold f_X7_may at h
  have lkf26 := hts (.fieldLink RX7 26 "TiedToTown" "town" "LTiedToTown$Town;") (List.mem_of_getElem? (i := 1) rfl)
  have hinX7 : ∀ w ∈ wsX70, w ∈ wsX7_may := fun w h => List.mem_cons_of_mem _ (List.mem_append_left _ (List.mem_append_right _ h))
  have lkf127 := va_Nw.use (w := Cond.fieldLinkNest RX7 127 "TiedToTown$Town" "tied" "I" "TiedToTown") rfl (A := args) (hK.2 _ (List.mem_of_getElem? (i := 20) rfl))
  have hinX6 : ∀ w ∈ wsX60, w ∈ wsX7_may := fun w h => List.mem_cons_of_mem _ (List.mem_append_right _ h)
  refine lv_aload_n hx hb dX7_may_0 rfl (lv_at hl 0 rfl) ?_
  refine va_get (D := D) (ci := 7) (v := .ref (ad 2 0)) (C := RX7) (T := TX7) (N := 12) hx hb hts hinX7 hown hK.1 hP 0 rfl rfl 2 (by decide) lkf26 (fun _ h9 => h9) rfl dX7_may_1 ?_
  refine lv_iload_n hx hb dX7_may_4 rfl (lv_at hl 1 rfl) ?_
  obtain ⟨z1, hz1, h⟩ := bd_some h
  refine pR_V (As := [.int x1]) (rest := []) (wr := (tX7 ad (X 6) ++ (wX5 cA (ad 0) (X 0) ++ (wX2 cA (ad 1) (X 1) ++ (wX6 cA (ad 3) (X 3) ++ (wX6 cA (ad 4) (X 4) ++ (wX6 cA (ad 5) (X 5) ++ (wX1 cA (ad 7) (X 7) ++ (wX0 cA (ad 8) (ad 2 0) (X 8) ++ (wX4 cA (ad 9) (X 9) ++ (wX3 cA (ad 10) (X 10) ++ (wX3 cA (ad 11) (X 11))))))))))))) ⟨hx, hb, hml, hown, hts⟩ (c_X6_isKnot l D cA (ad 2) (X 2) x1 z1 hz1) (cwV 1 hts gX7_may_X6_isKnot rfl rfl rfl hd_X6_isKnot ⟨(Nat.le_of_ble_eq_true rfl), (Nat.le_of_ble_eq_true rfl)⟩) (recvK hK (P_left (wc := wX6 cA (ad 2) (X 2)) (R := (tX7 ad (X 6) ++ (wX5 cA (ad 0) (X 0) ++ (wX2 cA (ad 1) (X 1) ++ (wX6 cA (ad 3) (X 3) ++ (wX6 cA (ad 4) (X 4) ++ (wX6 cA (ad 5) (X 5) ++ (wX1 cA (ad 7) (X 7) ++ (wX0 cA (ad 8) (ad 2 0) (X 8) ++ (wX4 cA (ad 9) (X 9) ++ (wX3 cA (ad 10) (X 10) ++ (wX3 cA (ad 11) (X 11))))))))))))) (perm_of (fun c hc => by unfold wX7 wX7b; simp only [hc]; omega)) hP) 0 6 rfl rfl) hK hP (perm_of (fun c hc => by unfold wX7 wX7b; simp only [hc]; omega)) rfl hl.1 rfl (Nat.le_of_ble_eq_true rfl) dX7_may_5 ⟨(Nat.le_of_ble_eq_true rfl), (Nat.le_of_ble_eq_true rfl)⟩ ?_
  refine lv_if_ne (tgt := 13) hx hb dX7_may_8 (by decide) (fun hc => ?_) (fun hc => ?_)
  · have h := if_f hc h
    refine lv_aload_n hx hb dX7_may_13 rfl (lv_at hl 0 rfl) ?_
    refine va_get (D := D) (ci := 7) (v := .ref (ad 2 0)) (C := RX7) (T := TX7) (N := 12) hx hb hts hinX7 hown hK.1 hP 0 rfl rfl 2 (by decide) lkf26 (fun _ h9 => h9) rfl dX7_may_14 ?_
    refine lv_iload_n hx hb dX7_may_17 rfl (lv_at hl 1 rfl) ?_
    refine lv_aload_n hx hb dX7_may_18 rfl (lv_at hl 0 rfl) ?_
    refine va_get (D := D) (ci := 7) (v := .ref (ad 2 0)) (C := RX7) (T := TX7) (N := 12) hx hb hts hinX7 hown hK.1 hP 0 rfl rfl 2 (by decide) lkf26 (fun _ h9 => h9) rfl dX7_may_19 ?_
    refine va_getN (D := D) (ci := 6) (v := .int ((X 2).1 10)) (C := RX6) (T := TX6) (N := 12) hx hb hts hinX6 hown hK.1 (P_left (wc := wX6 cA (ad 2) (X 2)) (R := (tX7 ad (X 6) ++ (wX5 cA (ad 0) (X 0) ++ (wX2 cA (ad 1) (X 1) ++ (wX6 cA (ad 3) (X 3) ++ (wX6 cA (ad 4) (X 4) ++ (wX6 cA (ad 5) (X 5) ++ (wX1 cA (ad 7) (X 7) ++ (wX0 cA (ad 8) (ad 2 0) (X 8) ++ (wX4 cA (ad 9) (X 9) ++ (wX3 cA (ad 10) (X 10) ++ (wX3 cA (ad 11) (X 11))))))))))))) (perm_of (fun c hc => by unfold wX7 wX7b; simp only [hc]; omega)) hP) 0 rfl rfl 10 (by decide) lkf127 (fun _ h9 => h9) rfl dX7_may_22 ?_
    obtain ⟨z2, hz2, h⟩ := bd_some h
    refine pR_V (As := [.int x1, .int ((X 2).1 10)]) (rest := []) (wr := (tX7 ad (X 6) ++ (wX5 cA (ad 0) (X 0) ++ (wX2 cA (ad 1) (X 1) ++ (wX6 cA (ad 3) (X 3) ++ (wX6 cA (ad 4) (X 4) ++ (wX6 cA (ad 5) (X 5) ++ (wX1 cA (ad 7) (X 7) ++ (wX0 cA (ad 8) (ad 2 0) (X 8) ++ (wX4 cA (ad 9) (X 9) ++ (wX3 cA (ad 10) (X 10) ++ (wX3 cA (ad 11) (X 11))))))))))))) ⟨hx, hb, hml, hown, hts⟩ (c_X6_mayToday l D cA (ad 2) (X 2) x1 ((X 2).1 10) z2 hz2) (cwV 2 hts gX7_may_X6_mayToday rfl rfl rfl hd_X6_mayToday ⟨(Nat.le_of_ble_eq_true rfl), (Nat.le_of_ble_eq_true rfl)⟩) (recvK hK (P_left (wc := wX6 cA (ad 2) (X 2)) (R := (tX7 ad (X 6) ++ (wX5 cA (ad 0) (X 0) ++ (wX2 cA (ad 1) (X 1) ++ (wX6 cA (ad 3) (X 3) ++ (wX6 cA (ad 4) (X 4) ++ (wX6 cA (ad 5) (X 5) ++ (wX1 cA (ad 7) (X 7) ++ (wX0 cA (ad 8) (ad 2 0) (X 8) ++ (wX4 cA (ad 9) (X 9) ++ (wX3 cA (ad 10) (X 10) ++ (wX3 cA (ad 11) (X 11))))))))))))) (perm_of (fun c hc => by unfold wX7 wX7b; simp only [hc]; omega)) hP) 0 6 rfl rfl) hK hP (perm_of (fun c hc => by unfold wX7 wX7b; simp only [hc]; omega)) rfl hl.1 rfl (Nat.le_of_ble_eq_true rfl) dX7_may_25 ⟨(Nat.le_of_ble_eq_true rfl), (Nat.le_of_ble_eq_true rfl)⟩ ?_
    obtain ⟨z3, hz3, h⟩ := bd_some h
    refine cR_S (As := [.int z2]) (rest := []) ⟨hx, hb, hml, hown, hts⟩ (c_X7_asNumber l D cA  z2 z3 hz3) (va_cwS 1 hts gX7_may_X7_asNumber rfl rfl rfl hd_X7_asNumber.2 ⟨(Nat.le_of_ble_eq_true rfl), (Nat.le_of_ble_eq_true rfl)⟩) hK hP [] rfl rfl hl.1 rfl (Nat.le_of_ble_eq_true rfl) dX7_may_28 ⟨(Nat.le_of_ble_eq_true rfl), (Nat.le_of_ble_eq_true rfl)⟩ ?_
    cases h
    exact hend _ _ dX7_may_31
  · have h := if_t hc h
    refine lv_iconst (v := (-1 : Int32)) hx hb dX7_may_11 (by decide) ?_
    cases h
    exact hend _ _ dX7_may_12
abbrev rmX7_removeTied : Room := ({ frames := 2, cells := 0, slots := 0, locals := 42 } : Room)
set_option maxHeartbeats 4000000 in
set_option maxRecDepth 100000 in
theorem c_X7_removeTied (l : Launch) (D : va_G) (cA : ClassId) (ad : (Nat → Nat → Nat)) (X : (Nat → Ob)) (x1 : Int32) (r : Int32) (X_ : (Nat → Ob)) (h : f_X7_removeTied X x1 = some (r, X_)) : ConW l yX7_removeTied wsX7_removeTied rmX7_removeTied D cA [.ref (ad 6 0), .int x1] (wX7 cA ad X) r (wX7 cA ad X_) := by
  refine ConW.enter (cc := cX7_removeTied) (maxL := 2) (by decide) rfl (Nat.le_of_ble_eq_true rfl) ?_
  intro p e s m args below meth c Q A hx hb hml hown hts hK hP hD hA hend ls hl
  have hS : va_S A s.heap s.heap [] := va_S.rf
  have hl : lv_has ls 2 [(0, .ref (ad 6 0)), (1, .int x1)] := hl
  unfold f_X7_removeTied at h
  have lkf46 := hts (.fieldLink RX7 46 "TiedToTown" "past" "LTiedToTown$Past;") (List.mem_of_getElem? (i := 1) rfl)
  have hinX7 : ∀ w ∈ wsX70, w ∈ wsX7_removeTied := fun w h => List.mem_cons_of_mem _ (List.mem_append_left _ (List.mem_append_left _ (List.mem_append_right _ h)))
  have lkf26 := hts (.fieldLink RX7 26 "TiedToTown" "town" "LTiedToTown$Town;") (List.mem_of_getElem? (i := 2) rfl)
  have lkf127 := va_Nw.use (w := Cond.fieldLinkNest RX7 127 "TiedToTown$Town" "tied" "I" "TiedToTown") rfl (A := args) (hK.2 _ (List.mem_of_getElem? (i := 20) rfl))
  have hinX6 : ∀ w ∈ wsX60, w ∈ wsX7_removeTied := fun w h => List.mem_cons_of_mem _ (List.mem_append_left _ (List.mem_append_right _ h))
  refine lv_aload_n hx hb dX7_removeTied_0 rfl (lv_at hl 0 rfl) ?_
  refine va_get (D := D) (ci := 7) (v := .ref (ad 7 0)) (C := RX7) (T := TX7) (N := 12) hx hb hts hinX7 hown hK.1 hP 0 rfl rfl 7 (by decide) lkf46 (fun _ h9 => h9) rfl dX7_removeTied_1 ?_
  refine lv_aload_n hx hb dX7_removeTied_4 rfl (lv_at hl 0 rfl) ?_
  refine va_get (D := D) (ci := 7) (v := .ref (ad 2 0)) (C := RX7) (T := TX7) (N := 12) hx hb hts hinX7 hown hK.1 hP 0 rfl rfl 2 (by decide) lkf26 (fun _ h9 => h9) rfl dX7_removeTied_5 ?_
  obtain ⟨z1, hz1, h⟩ := bd_some h
  refine pV_V (As := [.ref (ad 2 0)]) (rest := []) (wr := (tX7 ad (X 6) ++ (wX5 cA (ad 0) (X 0) ++ (wX2 cA (ad 1) (X 1) ++ (wX6 cA (ad 3) (X 3) ++ (wX6 cA (ad 4) (X 4) ++ (wX6 cA (ad 5) (X 5) ++ (wX0 cA (ad 8) (ad 2 0) (X 8) ++ (wX4 cA (ad 9) (X 9) ++ (wX3 cA (ad 10) (X 10) ++ (wX3 cA (ad 11) (X 11)))))))))))) (wn := (wX7 cA ad (sX X 7 z1))) ⟨hx, hb, hml, hown, hts⟩ (c_X1_note l D cA (ad 7) (X 7) (ad 2) (X 2)   z1 hz1) (cwV 1 hts gX7_removeTied_X1_note rfl rfl rfl hd_X1_note ⟨(Nat.le_of_ble_eq_true rfl), (Nat.le_of_ble_eq_true rfl)⟩) (recvK hK (P_left (wc := wX1 cA (ad 7) (X 7)) (R := (tX7 ad (X 6) ++ (wX5 cA (ad 0) (X 0) ++ (wX2 cA (ad 1) (X 1) ++ (wX6 cA (ad 2) (X 2) ++ (wX6 cA (ad 3) (X 3) ++ (wX6 cA (ad 4) (X 4) ++ (wX6 cA (ad 5) (X 5) ++ (wX0 cA (ad 8) (ad 2 0) (X 8) ++ (wX4 cA (ad 9) (X 9) ++ (wX3 cA (ad 10) (X 10) ++ (wX3 cA (ad 11) (X 11))))))))))))) (perm_of (fun c hc => by unfold wX7 wX7b; simp only [hc]; omega)) hP) 0 1 rfl rfl) hK hP hD hS hA (perm_of (fun c hc => by unfold wX7 wX7b; simp only [hc]; omega)) (perm_of (fun c hc => by rw [show wX7 cA ad (sX X 7 z1) = wX7b cA ad (X 0) (X 1) (X 2) (X 3) (X 4) (X 5) (X 6) z1 (X 8) (X 9) (X 10) (X 11) from rfl]; unfold wX7b; simp only [hc]; omega)) rfl hl.1 rfl (Nat.le_of_ble_eq_true rfl) dX7_removeTied_8 ⟨(Nat.le_of_ble_eq_true rfl), (Nat.le_of_ble_eq_true rfl)⟩ (fun H locs hP hD hS => ?_)
  obtain ⟨s2, es2⟩ : ∃ z, z = sX X 7 z1 := ⟨_, rfl⟩
  rw [← es2] at hP hD
  have h := nm_ap es2 h
  refine lv_aload_n hx hb dX7_removeTied_11 rfl (lv_at hl 0 rfl) ?_
  refine va_get (D := D) (ci := 7) (v := .ref (ad 2 0)) (C := RX7) (T := TX7) (N := 12) hx hb hts hinX7 hown hK.1 hP 0 rfl rfl 2 (by decide) lkf26 (fun _ h9 => h9) rfl dX7_removeTied_12 ?_
  refine lv_dup hx hb dX7_removeTied_15 rfl ?_
  refine va_getN (D := D) (ci := 6) (v := .int ((s2 2).1 10)) (C := RX6) (T := TX6) (N := 12) hx hb hts hinX6 hown hK.1 (P_left (wc := wX6 cA (ad 2) (s2 2)) (R := (tX7 ad (s2 6) ++ (wX5 cA (ad 0) (s2 0) ++ (wX2 cA (ad 1) (s2 1) ++ (wX6 cA (ad 3) (s2 3) ++ (wX6 cA (ad 4) (s2 4) ++ (wX6 cA (ad 5) (s2 5) ++ (wX1 cA (ad 7) (s2 7) ++ (wX0 cA (ad 8) (ad 2 0) (s2 8) ++ (wX4 cA (ad 9) (s2 9) ++ (wX3 cA (ad 10) (s2 10) ++ (wX3 cA (ad 11) (s2 11))))))))))))) (perm_of (fun c hc => by unfold wX7 wX7b; simp only [hc]; omega)) hP) 0 rfl rfl 10 (by decide) lkf127 (fun _ h9 => h9) rfl dX7_removeTied_16 ?_
  refine lv_iload_n hx hb dX7_removeTied_19 rfl (lv_at hl 1 rfl) ?_
  refine lv_iconst (v := (-1 : Int32)) hx hb dX7_removeTied_20 (by decide) ?_
  refine lv_ixor hx hb dX7_removeTied_21 ?_
  refine lv_iand hx hb dX7_removeTied_22 ?_
  have hP := P_perm (b := wX6 cA (ad 2) (s2 2) ++ (tX7 ad (s2 6) ++ (wX5 cA (ad 0) (s2 0) ++ (wX2 cA (ad 1) (s2 1) ++ (wX6 cA (ad 3) (s2 3) ++ (wX6 cA (ad 4) (s2 4) ++ (wX6 cA (ad 5) (s2 5) ++ (wX1 cA (ad 7) (s2 7) ++ (wX0 cA (ad 8) (ad 2 0) (s2 8) ++ (wX4 cA (ad 9) (s2 9) ++ (wX3 cA (ad 10) (s2 10) ++ (wX3 cA (ad 11) (s2 11))))))))))))) (perm_of (fun c hc => by unfold wX7 wX7b; simp only [hc]; omega)) hP
  have hD := D_perm (b := wX6 cA (ad 2) (s2 2) ++ (tX7 ad (s2 6) ++ (wX5 cA (ad 0) (s2 0) ++ (wX2 cA (ad 1) (s2 1) ++ (wX6 cA (ad 3) (s2 3) ++ (wX6 cA (ad 4) (s2 4) ++ (wX6 cA (ad 5) (s2 5) ++ (wX1 cA (ad 7) (s2 7) ++ (wX0 cA (ad 8) (ad 2 0) (s2 8) ++ (wX4 cA (ad 9) (s2 9) ++ (wX3 cA (ad 10) (s2 10) ++ (wX3 cA (ad 11) (s2 11))))))))))))) (perm_of (fun c hc => by unfold wX7 wX7b; simp only [hc]; omega)) hD
  refine va_putN (D := D) (ci := 6) (v := .int (((s2 2).1 10) &&& (x1 ^^^ (-1 : Int32)))) (ty := .int) (C := RX6) (T := TX6) (N := 12) hx hb hts hinX6 tyX6 tyX6_ok nmX6 hown hK.1 hP hD hS 0 rfl rfl 10 (by decide) lkf127 (fun _ h9 => h9) rfl (by decide +kernel) rfl rfl (Nat.le_of_ble_eq_true rfl) dX7_removeTied_23 (fun H locs hP hD hS => ?_)
  have hP : va_P D vwCl (wX6 cA (ad 2) (sF (s2 2) 10 (((s2 2).1 10) &&& (x1 ^^^ (-1 : Int32)))) ++ (tX7 ad (s2 6) ++ (wX5 cA (ad 0) (s2 0) ++ (wX2 cA (ad 1) (s2 1) ++ (wX6 cA (ad 3) (s2 3) ++ (wX6 cA (ad 4) (s2 4) ++ (wX6 cA (ad 5) (s2 5) ++ (wX1 cA (ad 7) (s2 7) ++ (wX0 cA (ad 8) (ad 2 0) (s2 8) ++ (wX4 cA (ad 9) (s2 9) ++ (wX3 cA (ad 10) (s2 10) ++ (wX3 cA (ad 11) (s2 11))))))))))))) H := hP
  have hD : va_D A (wX6 cA (ad 2) (sF (s2 2) 10 (((s2 2).1 10) &&& (x1 ^^^ (-1 : Int32)))) ++ (tX7 ad (s2 6) ++ (wX5 cA (ad 0) (s2 0) ++ (wX2 cA (ad 1) (s2 1) ++ (wX6 cA (ad 3) (s2 3) ++ (wX6 cA (ad 4) (s2 4) ++ (wX6 cA (ad 5) (s2 5) ++ (wX1 cA (ad 7) (s2 7) ++ (wX0 cA (ad 8) (ad 2 0) (s2 8) ++ (wX4 cA (ad 9) (s2 9) ++ (wX3 cA (ad 10) (s2 10) ++ (wX3 cA (ad 11) (s2 11))))))))))))) := hD
  have hP := P_perm (b := wX7 cA ad (sX s2 2 (sF (s2 2) 10 (((s2 2).1 10) &&& (x1 ^^^ (-1 : Int32)))))) (perm_of (fun c hc => by rw [show wX7 cA ad (sX s2 2 (sF (s2 2) 10 (((s2 2).1 10) &&& (x1 ^^^ (-1 : Int32))))) = wX7b cA ad (s2 0) (s2 1) (sF (s2 2) 10 (((s2 2).1 10) &&& (x1 ^^^ (-1 : Int32)))) (s2 3) (s2 4) (s2 5) (s2 6) (s2 7) (s2 8) (s2 9) (s2 10) (s2 11) from rfl]; unfold wX7b; simp only [hc]; omega)) hP
  have hD := D_perm (b := wX7 cA ad (sX s2 2 (sF (s2 2) 10 (((s2 2).1 10) &&& (x1 ^^^ (-1 : Int32)))))) (perm_of (fun c hc => by rw [show wX7 cA ad (sX s2 2 (sF (s2 2) 10 (((s2 2).1 10) &&& (x1 ^^^ (-1 : Int32))))) = wX7b cA ad (s2 0) (s2 1) (sF (s2 2) 10 (((s2 2).1 10) &&& (x1 ^^^ (-1 : Int32)))) (s2 3) (s2 4) (s2 5) (s2 6) (s2 7) (s2 8) (s2 9) (s2 10) (s2 11) from rfl]; unfold wX7b; simp only [hc]; omega)) hD
  obtain ⟨s3, es3⟩ : ∃ z, z = sX s2 2 (sF (s2 2) 10 (((s2 2).1 10) &&& (x1 ^^^ (-1 : Int32)))) := ⟨_, rfl⟩
  rw [← es3] at hP hD
  have h := nm_ap es3 h
  refine lv_iload_n hx hb dX7_removeTied_26 rfl (lv_at hl 1 rfl) ?_
  obtain ⟨z4, hz4, h⟩ := bd_some h
  refine cR_S (As := [.int x1]) (rest := []) ⟨hx, hb, hml, hown, hts⟩ (c_J6_bitCount_0f7a4 l D cA  x1 z4 hz4) (va_cwS 1 hts gX7_removeTied_J6_bitCount_0f7a4 rfl rfl rfl hd_J6_bitCount_0f7a4.2 ⟨(Nat.le_of_ble_eq_true rfl), (Nat.le_of_ble_eq_true rfl)⟩) hK hP [] rfl rfl hl.1 rfl (Nat.le_of_ble_eq_true rfl) dX7_removeTied_27 ⟨(Nat.le_of_ble_eq_true rfl), (Nat.le_of_ble_eq_true rfl)⟩ ?_
  cases h
  exact hend _ _ _ _ hP hD hS dX7_removeTied_30
abbrev rmX7_undo : Room := ({ frames := 4, cells := 0, slots := 0, locals := 92 } : Room)
set_option maxHeartbeats 4000000 in
set_option maxRecDepth 100000 in
theorem c_X7_undo (l : Launch) (D : va_G) (cA : ClassId) (ad : (Nat → Nat → Nat)) (X : (Nat → Ob)) (x1 : Int32) (r : Int32) (X_ : (Nat → Ob)) (h : f_X7_undo X x1 = some (r, X_)) : ConW l yX7_undo wsX7_undo rmX7_undo D cA [.ref (ad 6 0), .int x1] (wX7 cA ad X) r (wX7 cA ad X_) := by
  refine ConW.enter (cc := cX7_undo) (maxL := 2) (by decide) rfl (Nat.le_of_ble_eq_true rfl) ?_
  intro p e s m args below meth c Q A hx hb hml hown hts hK hP hD hA hend ls hl
  have hS : va_S A s.heap s.heap [] := va_S.rf
  have hl : lv_has ls 2 [(0, .ref (ad 6 0)), (1, .int x1)] := hl
  unfold f_X7_undo at h
  have lkf26 := hts (.fieldLink RX7 26 "TiedToTown" "town" "LTiedToTown$Town;") (List.mem_of_getElem? (i := 1) rfl)
  have hinX7 : ∀ w ∈ wsX70, w ∈ wsX7_undo := fun w h => List.mem_cons_of_mem _ (List.mem_append_left _ (List.mem_append_left _ (List.mem_append_right _ h)))
  have lkf127 := va_Nw.use (w := Cond.fieldLinkNest RX7 127 "TiedToTown$Town" "tied" "I" "TiedToTown") rfl (A := args) (hK.2 _ (List.mem_of_getElem? (i := 20) rfl))
  have hinX6 : ∀ w ∈ wsX60, w ∈ wsX7_undo := fun w h => List.mem_cons_of_mem _ (List.mem_append_left _ (List.mem_append_right _ h))
  refine lv_aload_n hx hb dX7_undo_0 rfl (lv_at hl 0 rfl) ?_
  refine va_get (D := D) (ci := 7) (v := .ref (ad 2 0)) (C := RX7) (T := TX7) (N := 12) hx hb hts hinX7 hown hK.1 hP 0 rfl rfl 2 (by decide) lkf26 (fun _ h9 => h9) rfl dX7_undo_1 ?_
  refine lv_iload_n hx hb dX7_undo_4 rfl (lv_at hl 1 rfl) ?_
  obtain ⟨z1, hz1, h⟩ := bd_some h
  refine pR_V (As := [.int x1]) (rest := []) (wr := (tX7 ad (X 6) ++ (wX5 cA (ad 0) (X 0) ++ (wX2 cA (ad 1) (X 1) ++ (wX6 cA (ad 3) (X 3) ++ (wX6 cA (ad 4) (X 4) ++ (wX6 cA (ad 5) (X 5) ++ (wX1 cA (ad 7) (X 7) ++ (wX0 cA (ad 8) (ad 2 0) (X 8) ++ (wX4 cA (ad 9) (X 9) ++ (wX3 cA (ad 10) (X 10) ++ (wX3 cA (ad 11) (X 11))))))))))))) ⟨hx, hb, hml, hown, hts⟩ (c_X6_isKnot l D cA (ad 2) (X 2) x1 z1 hz1) (cwV 1 hts gX7_undo_X6_isKnot rfl rfl rfl hd_X6_isKnot ⟨(Nat.le_of_ble_eq_true rfl), (Nat.le_of_ble_eq_true rfl)⟩) (recvK hK (P_left (wc := wX6 cA (ad 2) (X 2)) (R := (tX7 ad (X 6) ++ (wX5 cA (ad 0) (X 0) ++ (wX2 cA (ad 1) (X 1) ++ (wX6 cA (ad 3) (X 3) ++ (wX6 cA (ad 4) (X 4) ++ (wX6 cA (ad 5) (X 5) ++ (wX1 cA (ad 7) (X 7) ++ (wX0 cA (ad 8) (ad 2 0) (X 8) ++ (wX4 cA (ad 9) (X 9) ++ (wX3 cA (ad 10) (X 10) ++ (wX3 cA (ad 11) (X 11))))))))))))) (perm_of (fun c hc => by unfold wX7 wX7b; simp only [hc]; omega)) hP) 0 6 rfl rfl) hK hP (perm_of (fun c hc => by unfold wX7 wX7b; simp only [hc]; omega)) rfl hl.1 rfl (Nat.le_of_ble_eq_true rfl) dX7_undo_5 ⟨(Nat.le_of_ble_eq_true rfl), (Nat.le_of_ble_eq_true rfl)⟩ ?_
  refine lv_if_ne (tgt := 13) hx hb dX7_undo_8 (by decide) (fun hc => ?_) (fun hc => ?_)
  · have h := if_f hc h
    refine lv_aload_n hx hb dX7_undo_13 rfl (lv_at hl 0 rfl) ?_
    refine va_get (D := D) (ci := 7) (v := .ref (ad 2 0)) (C := RX7) (T := TX7) (N := 12) hx hb hts hinX7 hown hK.1 hP 0 rfl rfl 2 (by decide) lkf26 (fun _ h9 => h9) rfl dX7_undo_14 ?_
    refine lv_iload_n hx hb dX7_undo_17 rfl (lv_at hl 1 rfl) ?_
    refine lv_aload_n hx hb dX7_undo_18 rfl (lv_at hl 0 rfl) ?_
    refine va_get (D := D) (ci := 7) (v := .ref (ad 2 0)) (C := RX7) (T := TX7) (N := 12) hx hb hts hinX7 hown hK.1 hP 0 rfl rfl 2 (by decide) lkf26 (fun _ h9 => h9) rfl dX7_undo_19 ?_
    refine va_getN (D := D) (ci := 6) (v := .int ((X 2).1 10)) (C := RX6) (T := TX6) (N := 12) hx hb hts hinX6 hown hK.1 (P_left (wc := wX6 cA (ad 2) (X 2)) (R := (tX7 ad (X 6) ++ (wX5 cA (ad 0) (X 0) ++ (wX2 cA (ad 1) (X 1) ++ (wX6 cA (ad 3) (X 3) ++ (wX6 cA (ad 4) (X 4) ++ (wX6 cA (ad 5) (X 5) ++ (wX1 cA (ad 7) (X 7) ++ (wX0 cA (ad 8) (ad 2 0) (X 8) ++ (wX4 cA (ad 9) (X 9) ++ (wX3 cA (ad 10) (X 10) ++ (wX3 cA (ad 11) (X 11))))))))))))) (perm_of (fun c hc => by unfold wX7 wX7b; simp only [hc]; omega)) hP) 0 rfl rfl 10 (by decide) lkf127 (fun _ h9 => h9) rfl dX7_undo_22 ?_
    obtain ⟨z2, hz2, h⟩ := bd_some h
    refine pR_V (As := [.int x1, .int ((X 2).1 10)]) (rest := []) (wr := (tX7 ad (X 6) ++ (wX5 cA (ad 0) (X 0) ++ (wX2 cA (ad 1) (X 1) ++ (wX6 cA (ad 3) (X 3) ++ (wX6 cA (ad 4) (X 4) ++ (wX6 cA (ad 5) (X 5) ++ (wX1 cA (ad 7) (X 7) ++ (wX0 cA (ad 8) (ad 2 0) (X 8) ++ (wX4 cA (ad 9) (X 9) ++ (wX3 cA (ad 10) (X 10) ++ (wX3 cA (ad 11) (X 11))))))))))))) ⟨hx, hb, hml, hown, hts⟩ (c_X6_mayToday l D cA (ad 2) (X 2) x1 ((X 2).1 10) z2 hz2) (cwV 2 hts gX7_undo_X6_mayToday rfl rfl rfl hd_X6_mayToday ⟨(Nat.le_of_ble_eq_true rfl), (Nat.le_of_ble_eq_true rfl)⟩) (recvK hK (P_left (wc := wX6 cA (ad 2) (X 2)) (R := (tX7 ad (X 6) ++ (wX5 cA (ad 0) (X 0) ++ (wX2 cA (ad 1) (X 1) ++ (wX6 cA (ad 3) (X 3) ++ (wX6 cA (ad 4) (X 4) ++ (wX6 cA (ad 5) (X 5) ++ (wX1 cA (ad 7) (X 7) ++ (wX0 cA (ad 8) (ad 2 0) (X 8) ++ (wX4 cA (ad 9) (X 9) ++ (wX3 cA (ad 10) (X 10) ++ (wX3 cA (ad 11) (X 11))))))))))))) (perm_of (fun c hc => by unfold wX7 wX7b; simp only [hc]; omega)) hP) 0 6 rfl rfl) hK hP (perm_of (fun c hc => by unfold wX7 wX7b; simp only [hc]; omega)) rfl hl.1 rfl (Nat.le_of_ble_eq_true rfl) dX7_undo_25 ⟨(Nat.le_of_ble_eq_true rfl), (Nat.le_of_ble_eq_true rfl)⟩ ?_
    refine lv_if_ne (tgt := 34) hx hb dX7_undo_28 (by decide) (fun hc => ?_) (fun hc => ?_)
    · have h := if_f hc h
      refine lv_aload_n hx hb dX7_undo_34 rfl (lv_at hl 0 rfl) ?_
      refine lv_iload_n hx hb dX7_undo_35 rfl (lv_at hl 1 rfl) ?_
      obtain ⟨z3, hz3, h⟩ := bd_some h
      refine cR_S (As := [.int x1]) (rest := [.ref (ad 6 0)]) ⟨hx, hb, hml, hown, hts⟩ (c_X7_bit l D cA  x1 z3 hz3) (va_cwS 1 hts gX7_undo_X7_bit rfl rfl rfl hd_X7_bit.2 ⟨(Nat.le_of_ble_eq_true rfl), (Nat.le_of_ble_eq_true rfl)⟩) hK hP [] rfl rfl hl.1 rfl (Nat.le_of_ble_eq_true rfl) dX7_undo_36 ⟨(Nat.le_of_ble_eq_true rfl), (Nat.le_of_ble_eq_true rfl)⟩ ?_
      obtain ⟨z4, hz4, h⟩ := bd_some h
      refine pW_V (As := [.int z3]) (rest := []) (wr := ([] : va_W)) (wn := (wX7 cA ad z4.2)) ⟨hx, hb, hml, hown, hts⟩ (c_X7_removeTied l D cA ad X z3 z4.1 z4.2 hz4) (cwV 1 hts gX7_undo_X7_removeTied rfl rfl rfl hd_X7_removeTied ⟨(Nat.le_of_ble_eq_true rfl), (Nat.le_of_ble_eq_true rfl)⟩) (recvK hK hP 0 7 rfl rfl) hK hP hD hS hA perm_nil (by rw [List.append_nil]) rfl hl.1 rfl (Nat.le_of_ble_eq_true rfl) dX7_undo_39 ⟨(Nat.le_of_ble_eq_true rfl), (Nat.le_of_ble_eq_true rfl)⟩ (fun H locs hP hD hS => ?_)
      refine lv_pop hx hb dX7_undo_42 rfl ?_
      refine lv_aload_n hx hb dX7_undo_43 rfl (lv_at hl 0 rfl) ?_
      refine va_get (D := D) (ci := 7) (v := .ref (ad 2 0)) (C := RX7) (T := TX7) (N := 12) hx hb hts hinX7 hown hK.1 hP 0 rfl rfl 2 (by decide) lkf26 (fun _ h9 => h9) rfl dX7_undo_44 ?_
      refine va_getN (D := D) (ci := 6) (v := .int ((z4.2 2).1 10)) (C := RX6) (T := TX6) (N := 12) hx hb hts hinX6 hown hK.1 (P_left (wc := wX6 cA (ad 2) (z4.2 2)) (R := (tX7 ad (z4.2 6) ++ (wX5 cA (ad 0) (z4.2 0) ++ (wX2 cA (ad 1) (z4.2 1) ++ (wX6 cA (ad 3) (z4.2 3) ++ (wX6 cA (ad 4) (z4.2 4) ++ (wX6 cA (ad 5) (z4.2 5) ++ (wX1 cA (ad 7) (z4.2 7) ++ (wX0 cA (ad 8) (ad 2 0) (z4.2 8) ++ (wX4 cA (ad 9) (z4.2 9) ++ (wX3 cA (ad 10) (z4.2 10) ++ (wX3 cA (ad 11) (z4.2 11))))))))))))) (perm_of (fun c hc => by unfold wX7 wX7b; simp only [hc]; omega)) hP) 0 rfl rfl 10 (by decide) lkf127 (fun _ h9 => h9) rfl dX7_undo_47 ?_
      obtain ⟨z5, hz5, h⟩ := bd_some h
      refine cR_S (As := [.int ((z4.2 2).1 10)]) (rest := []) ⟨hx, hb, hml, hown, hts⟩ (c_J6_bitCount_0f7a4 l D cA  ((z4.2 2).1 10) z5 hz5) (va_cwS 1 hts gX7_undo_J6_bitCount_0f7a4 rfl rfl rfl hd_J6_bitCount_0f7a4.2 ⟨(Nat.le_of_ble_eq_true rfl), (Nat.le_of_ble_eq_true rfl)⟩) hK hP [] rfl rfl hl.1 rfl (Nat.le_of_ble_eq_true rfl) dX7_undo_50 ⟨(Nat.le_of_ble_eq_true rfl), (Nat.le_of_ble_eq_true rfl)⟩ ?_
      cases h
      exact hend _ _ _ _ hP hD hS dX7_undo_53
    · have h := if_t hc h
      refine lv_bipush (v := (-2 : Int32)) hx hb dX7_undo_31 (by decide) ?_
      cases h
      exact hend _ _ _ _ hP hD hS dX7_undo_33
  · have h := if_t hc h
    refine lv_iconst (v := (-1 : Int32)) hx hb dX7_undo_11 (by decide) ?_
    cases h
    exact hend _ _ _ _ hP hD hS dX7_undo_12
abbrev rmX7_tie : Room := ({ frames := 4, cells := 0, slots := 0, locals := 91 } : Room)
set_option maxHeartbeats 4000000 in
set_option maxRecDepth 100000 in
theorem c_X7_tie (l : Launch) (D : va_G) (cA : ClassId) (ad : (Nat → Nat → Nat)) (X : (Nat → Ob)) (x1 : Int32) (x2 : Int32) (x3 : Int32) (x4 : Int32) (x5 : Int32) (r : Int32) (X_ : (Nat → Ob)) (h : f_X7_tie X x1 x2 x3 x4 x5 = some (r, X_)) : ConW l yX7_tie wsX7_tie rmX7_tie D cA [.ref (ad 6 0), .int x1, .int x2, .int x3, .int x4, .int x5] (wX7 cA ad X) r (wX7 cA ad X_) := by
  refine ConW.enter (cc := cX7_tie) (maxL := 6) (by decide) rfl (Nat.le_of_ble_eq_true rfl) ?_
  intro p e s m args below meth c Q A hx hb hml hown hts hK hP hD hA hend ls hl
  have hS : va_S A s.heap s.heap [] := va_S.rf
  have hl : lv_has ls 6 [(0, .ref (ad 6 0)), (1, .int x1), (2, .int x2), (3, .int x3), (4, .int x4), (5, .int x5)] := hl
  unfold f_X7_tie at h
  have lkf26 := hts (.fieldLink RX7 26 "TiedToTown" "town" "LTiedToTown$Town;") (List.mem_of_getElem? (i := 1) rfl)
  have hinX7 : ∀ w ∈ wsX70, w ∈ wsX7_tie := fun w h => List.mem_cons_of_mem _ (List.mem_append_left _ (List.mem_append_left _ (List.mem_append_left _ (List.mem_append_right _ h))))
  have lkf145 := va_Nw.use (w := Cond.fieldLinkNest RX7 145 "TiedToTown$Town" "alive" "I" "TiedToTown") rfl (A := args) (hK.2 _ (List.mem_of_getElem? (i := 13) rfl))
  have hinX6 : ∀ w ∈ wsX60, w ∈ wsX7_tie := fun w h => List.mem_cons_of_mem _ (List.mem_append_left _ (List.mem_append_left _ (List.mem_append_right _ h)))
  have lkf127 := va_Nw.use (w := Cond.fieldLinkNest RX7 127 "TiedToTown$Town" "tied" "I" "TiedToTown") rfl (A := args) (hK.2 _ (List.mem_of_getElem? (i := 20) rfl))
  have lkf99 := va_Nw.use (w := Cond.fieldLinkNest RX7 99 "TiedToTown$Town" "knots" "I" "TiedToTown") rfl (A := args) (hK.2 _ (List.mem_of_getElem? (i := 16) rfl))
  have lkf46 := hts (.fieldLink RX7 46 "TiedToTown" "past" "LTiedToTown$Past;") (List.mem_of_getElem? (i := 2) rfl)
  have lkf62 := hts (.fieldLink RX7 62 "TiedToTown" "row" "LTiedToTown$Row;") (List.mem_of_getElem? (i := 3) rfl)
  refine lv_aload_n hx hb dX7_tie_0 rfl (lv_at hl 0 rfl) ?_
  refine va_get (D := D) (ci := 7) (v := .ref (ad 2 0)) (C := RX7) (T := TX7) (N := 12) hx hb hts hinX7 hown hK.1 hP 0 rfl rfl 2 (by decide) lkf26 (fun _ h9 => h9) rfl dX7_tie_1 ?_
  refine lv_iload_n hx hb dX7_tie_4 rfl (lv_at hl 1 rfl) ?_
  refine lv_iload_n hx hb dX7_tie_5 rfl (lv_at hl 2 rfl) ?_
  refine lv_iload_n hx hb dX7_tie_6 rfl (lv_at hl 3 rfl) ?_
  refine lv_iload hx hb dX7_tie_7 (lv_at hl 4 rfl) ?_
  refine lv_iload hx hb dX7_tie_9 (lv_at hl 5 rfl) ?_
  obtain ⟨z1, hz1, h⟩ := bd_some h
  refine pR_V (As := [.int x1, .int x2, .int x3, .int x4, .int x5]) (rest := []) (wr := (tX7 ad (X 6) ++ (wX5 cA (ad 0) (X 0) ++ (wX2 cA (ad 1) (X 1) ++ (wX6 cA (ad 3) (X 3) ++ (wX6 cA (ad 4) (X 4) ++ (wX6 cA (ad 5) (X 5) ++ (wX1 cA (ad 7) (X 7) ++ (wX0 cA (ad 8) (ad 2 0) (X 8) ++ (wX4 cA (ad 9) (X 9) ++ (wX3 cA (ad 10) (X 10) ++ (wX3 cA (ad 11) (X 11))))))))))))) ⟨hx, hb, hml, hown, hts⟩ (c_X6_suits l D cA (ad 2) (X 2) x1 x2 x3 x4 x5 z1 hz1) (cwV 5 hts gX7_tie_X6_suits rfl rfl rfl hd_X6_suits ⟨(Nat.le_of_ble_eq_true rfl), (Nat.le_of_ble_eq_true rfl)⟩) (recvK hK (P_left (wc := wX6 cA (ad 2) (X 2)) (R := (tX7 ad (X 6) ++ (wX5 cA (ad 0) (X 0) ++ (wX2 cA (ad 1) (X 1) ++ (wX6 cA (ad 3) (X 3) ++ (wX6 cA (ad 4) (X 4) ++ (wX6 cA (ad 5) (X 5) ++ (wX1 cA (ad 7) (X 7) ++ (wX0 cA (ad 8) (ad 2 0) (X 8) ++ (wX4 cA (ad 9) (X 9) ++ (wX3 cA (ad 10) (X 10) ++ (wX3 cA (ad 11) (X 11))))))))))))) (perm_of (fun c hc => by unfold wX7 wX7b; simp only [hc]; omega)) hP) 0 6 rfl rfl) hK hP (perm_of (fun c hc => by unfold wX7 wX7b; simp only [hc]; omega)) rfl hl.1 rfl (Nat.le_of_ble_eq_true rfl) dX7_tie_11 ⟨(Nat.le_of_ble_eq_true rfl), (Nat.le_of_ble_eq_true rfl)⟩ ?_
  refine lv_if_ne (tgt := 19) hx hb dX7_tie_14 (by decide) (fun hc => ?_) (fun hc => ?_)
  · have h := if_f hc h
    refine lv_iload_n hx hb dX7_tie_19 rfl (lv_at hl 1 rfl) ?_
    obtain ⟨z2, hz2, h⟩ := bd_some h
    refine cR_S (As := [.int x1]) (rest := []) ⟨hx, hb, hml, hown, hts⟩ (c_X7_bit l D cA  x1 z2 hz2) (va_cwS 1 hts gX7_tie_X7_bit rfl rfl rfl hd_X7_bit.2 ⟨(Nat.le_of_ble_eq_true rfl), (Nat.le_of_ble_eq_true rfl)⟩) hK hP [] rfl rfl hl.1 rfl (Nat.le_of_ble_eq_true rfl) dX7_tie_20 ⟨(Nat.le_of_ble_eq_true rfl), (Nat.le_of_ble_eq_true rfl)⟩ ?_
    refine lv_iload_n hx hb dX7_tie_23 rfl (lv_at hl 2 rfl) ?_
    obtain ⟨z3, hz3, h⟩ := bd_some h
    refine cR_S (As := [.int x2]) (rest := [.int z2]) ⟨hx, hb, hml, hown, hts⟩ (c_X7_bit l D cA  x2 z3 hz3) (va_cwS 1 hts gX7_tie_X7_bit rfl rfl rfl hd_X7_bit.2 ⟨(Nat.le_of_ble_eq_true rfl), (Nat.le_of_ble_eq_true rfl)⟩) hK hP [] rfl rfl hl.1 rfl (Nat.le_of_ble_eq_true rfl) dX7_tie_24 ⟨(Nat.le_of_ble_eq_true rfl), (Nat.le_of_ble_eq_true rfl)⟩ ?_
    refine lv_ior hx hb dX7_tie_27 ?_
    refine lv_aload_n hx hb dX7_tie_28 rfl (lv_at hl 0 rfl) ?_
    refine va_get (D := D) (ci := 7) (v := .ref (ad 2 0)) (C := RX7) (T := TX7) (N := 12) hx hb hts hinX7 hown hK.1 hP 0 rfl rfl 2 (by decide) lkf26 (fun _ h9 => h9) rfl dX7_tie_29 ?_
    refine va_getN (D := D) (ci := 6) (v := .int ((X 2).1 7)) (C := RX6) (T := TX6) (N := 12) hx hb hts hinX6 hown hK.1 (P_left (wc := wX6 cA (ad 2) (X 2)) (R := (tX7 ad (X 6) ++ (wX5 cA (ad 0) (X 0) ++ (wX2 cA (ad 1) (X 1) ++ (wX6 cA (ad 3) (X 3) ++ (wX6 cA (ad 4) (X 4) ++ (wX6 cA (ad 5) (X 5) ++ (wX1 cA (ad 7) (X 7) ++ (wX0 cA (ad 8) (ad 2 0) (X 8) ++ (wX4 cA (ad 9) (X 9) ++ (wX3 cA (ad 10) (X 10) ++ (wX3 cA (ad 11) (X 11))))))))))))) (perm_of (fun c hc => by unfold wX7 wX7b; simp only [hc]; omega)) hP) 0 rfl rfl 7 (by decide) lkf145 (fun _ h9 => h9) rfl dX7_tie_32 ?_
    obtain ⟨z4, hz4, h⟩ := bd_some h
    refine cR_S (As := [.int (z2 ||| z3), .int ((X 2).1 7)]) (rest := []) ⟨hx, hb, hml, hown, hts⟩ (c_X7_isWithin l D cA  (z2 ||| z3) ((X 2).1 7) z4 hz4) (va_cwS 2 hts gX7_tie_X7_isWithin rfl rfl rfl hd_X7_isWithin.2 ⟨(Nat.le_of_ble_eq_true rfl), (Nat.le_of_ble_eq_true rfl)⟩) hK hP [] rfl rfl hl.1 rfl (Nat.le_of_ble_eq_true rfl) dX7_tie_35 ⟨(Nat.le_of_ble_eq_true rfl), (Nat.le_of_ble_eq_true rfl)⟩ ?_
    refine lv_if_eq (tgt := 55) hx hb dX7_tie_38 (by decide) (fun hc => ?_) (fun hc => ?_)
    · have h := if_t hc h
      refine lv_bipush (v := (-2 : Int32)) hx hb dX7_tie_55 (by decide) ?_
      cases h
      exact hend _ _ _ _ hP hD hS dX7_tie_57
    · have h := if_f hc h
      refine lv_iload_n hx hb dX7_tie_41 rfl (lv_at hl 3 rfl) ?_
      refine lv_aload_n hx hb dX7_tie_42 rfl (lv_at hl 0 rfl) ?_
      refine va_get (D := D) (ci := 7) (v := .ref (ad 2 0)) (C := RX7) (T := TX7) (N := 12) hx hb hts hinX7 hown hK.1 hP 0 rfl rfl 2 (by decide) lkf26 (fun _ h9 => h9) rfl dX7_tie_43 ?_
      refine va_getN (D := D) (ci := 6) (v := .int ((X 2).1 10)) (C := RX6) (T := TX6) (N := 12) hx hb hts hinX6 hown hK.1 (P_left (wc := wX6 cA (ad 2) (X 2)) (R := (tX7 ad (X 6) ++ (wX5 cA (ad 0) (X 0) ++ (wX2 cA (ad 1) (X 1) ++ (wX6 cA (ad 3) (X 3) ++ (wX6 cA (ad 4) (X 4) ++ (wX6 cA (ad 5) (X 5) ++ (wX1 cA (ad 7) (X 7) ++ (wX0 cA (ad 8) (ad 2 0) (X 8) ++ (wX4 cA (ad 9) (X 9) ++ (wX3 cA (ad 10) (X 10) ++ (wX3 cA (ad 11) (X 11))))))))))))) (perm_of (fun c hc => by unfold wX7 wX7b; simp only [hc]; omega)) hP) 0 rfl rfl 10 (by decide) lkf127 (fun _ h9 => h9) rfl dX7_tie_46 ?_
      obtain ⟨z5, hz5, h⟩ := bd_some h
      refine cR_S (As := [.int x3, .int ((X 2).1 10)]) (rest := []) ⟨hx, hb, hml, hown, hts⟩ (c_X7_isWithin l D cA  x3 ((X 2).1 10) z5 hz5) (va_cwS 2 hts gX7_tie_X7_isWithin rfl rfl rfl hd_X7_isWithin.2 ⟨(Nat.le_of_ble_eq_true rfl), (Nat.le_of_ble_eq_true rfl)⟩) hK hP [] rfl rfl hl.1 rfl (Nat.le_of_ble_eq_true rfl) dX7_tie_49 ⟨(Nat.le_of_ble_eq_true rfl), (Nat.le_of_ble_eq_true rfl)⟩ ?_
      refine lv_if_ne (tgt := 58) hx hb dX7_tie_52 (by decide) (fun hc => ?_) (fun hc => ?_)
      · have h := if_f hc h
        refine lv_aload_n hx hb dX7_tie_58 rfl (lv_at hl 0 rfl) ?_
        refine va_get (D := D) (ci := 7) (v := .ref (ad 2 0)) (C := RX7) (T := TX7) (N := 12) hx hb hts hinX7 hown hK.1 hP 0 rfl rfl 2 (by decide) lkf26 (fun _ h9 => h9) rfl dX7_tie_59 ?_
        refine va_getN (D := D) (ci := 6) (v := .int ((X 2).1 9)) (C := RX6) (T := TX6) (N := 12) hx hb hts hinX6 hown hK.1 (P_left (wc := wX6 cA (ad 2) (X 2)) (R := (tX7 ad (X 6) ++ (wX5 cA (ad 0) (X 0) ++ (wX2 cA (ad 1) (X 1) ++ (wX6 cA (ad 3) (X 3) ++ (wX6 cA (ad 4) (X 4) ++ (wX6 cA (ad 5) (X 5) ++ (wX1 cA (ad 7) (X 7) ++ (wX0 cA (ad 8) (ad 2 0) (X 8) ++ (wX4 cA (ad 9) (X 9) ++ (wX3 cA (ad 10) (X 10) ++ (wX3 cA (ad 11) (X 11))))))))))))) (perm_of (fun c hc => by unfold wX7 wX7b; simp only [hc]; omega)) hP) 0 rfl rfl 9 (by decide) lkf99 (fun _ h9 => h9) rfl dX7_tie_62 ?_
        refine lv_bipush (v := (8 : Int32)) hx hb dX7_tie_65 (by decide) ?_
        refine lv_icmp_lt (tgt := 73) hx hb dX7_tie_67 (by decide) (fun hc => ?_) (fun hc => ?_)
        · have h := if_t hc h
          refine lv_aload_n hx hb dX7_tie_73 rfl (lv_at hl 0 rfl) ?_
          refine va_get (D := D) (ci := 7) (v := .ref (ad 7 0)) (C := RX7) (T := TX7) (N := 12) hx hb hts hinX7 hown hK.1 hP 0 rfl rfl 7 (by decide) lkf46 (fun _ h9 => h9) rfl dX7_tie_74 ?_
          refine lv_aload_n hx hb dX7_tie_77 rfl (lv_at hl 0 rfl) ?_
          refine va_get (D := D) (ci := 7) (v := .ref (ad 2 0)) (C := RX7) (T := TX7) (N := 12) hx hb hts hinX7 hown hK.1 hP 0 rfl rfl 2 (by decide) lkf26 (fun _ h9 => h9) rfl dX7_tie_78 ?_
          obtain ⟨z6, hz6, h⟩ := bd_some h
          refine pV_V (As := [.ref (ad 2 0)]) (rest := []) (wr := (tX7 ad (X 6) ++ (wX5 cA (ad 0) (X 0) ++ (wX2 cA (ad 1) (X 1) ++ (wX6 cA (ad 3) (X 3) ++ (wX6 cA (ad 4) (X 4) ++ (wX6 cA (ad 5) (X 5) ++ (wX0 cA (ad 8) (ad 2 0) (X 8) ++ (wX4 cA (ad 9) (X 9) ++ (wX3 cA (ad 10) (X 10) ++ (wX3 cA (ad 11) (X 11)))))))))))) (wn := (wX7 cA ad (sX X 7 z6))) ⟨hx, hb, hml, hown, hts⟩ (c_X1_note l D cA (ad 7) (X 7) (ad 2) (X 2)   z6 hz6) (cwV 1 hts gX7_tie_X1_note rfl rfl rfl hd_X1_note ⟨(Nat.le_of_ble_eq_true rfl), (Nat.le_of_ble_eq_true rfl)⟩) (recvK hK (P_left (wc := wX1 cA (ad 7) (X 7)) (R := (tX7 ad (X 6) ++ (wX5 cA (ad 0) (X 0) ++ (wX2 cA (ad 1) (X 1) ++ (wX6 cA (ad 2) (X 2) ++ (wX6 cA (ad 3) (X 3) ++ (wX6 cA (ad 4) (X 4) ++ (wX6 cA (ad 5) (X 5) ++ (wX0 cA (ad 8) (ad 2 0) (X 8) ++ (wX4 cA (ad 9) (X 9) ++ (wX3 cA (ad 10) (X 10) ++ (wX3 cA (ad 11) (X 11))))))))))))) (perm_of (fun c hc => by unfold wX7 wX7b; simp only [hc]; omega)) hP) 0 1 rfl rfl) hK hP hD hS hA (perm_of (fun c hc => by unfold wX7 wX7b; simp only [hc]; omega)) (perm_of (fun c hc => by rw [show wX7 cA ad (sX X 7 z6) = wX7b cA ad (X 0) (X 1) (X 2) (X 3) (X 4) (X 5) (X 6) z6 (X 8) (X 9) (X 10) (X 11) from rfl]; unfold wX7b; simp only [hc]; omega)) rfl hl.1 rfl (Nat.le_of_ble_eq_true rfl) dX7_tie_81 ⟨(Nat.le_of_ble_eq_true rfl), (Nat.le_of_ble_eq_true rfl)⟩ (fun H locs hP hD hS => ?_)
          obtain ⟨s7, es7⟩ : ∃ z, z = sX X 7 z6 := ⟨_, rfl⟩
          rw [← es7] at hP hD
          have h := nm_ap es7 h
          refine lv_aload_n hx hb dX7_tie_84 rfl (lv_at hl 0 rfl) ?_
          refine va_get (D := D) (ci := 7) (v := .ref (ad 9 0)) (C := RX7) (T := TX7) (N := 12) hx hb hts hinX7 hown hK.1 hP 0 rfl rfl 9 (by decide) lkf62 (fun _ h9 => h9) rfl dX7_tie_85 ?_
          obtain ⟨z8, hz8, h⟩ := bd_some h
          refine pV_V (As := []) (rest := []) (wr := (tX7 ad (s7 6) ++ (wX5 cA (ad 0) (s7 0) ++ (wX2 cA (ad 1) (s7 1) ++ (wX6 cA (ad 2) (s7 2) ++ (wX6 cA (ad 3) (s7 3) ++ (wX6 cA (ad 4) (s7 4) ++ (wX6 cA (ad 5) (s7 5) ++ (wX1 cA (ad 7) (s7 7) ++ (wX0 cA (ad 8) (ad 2 0) (s7 8) ++ (wX3 cA (ad 10) (s7 10) ++ (wX3 cA (ad 11) (s7 11))))))))))))) (wn := (wX7 cA ad (sX s7 9 z8))) ⟨hx, hb, hml, hown, hts⟩ (c_X4_empty l D cA (ad 9) (s7 9)   z8 hz8) (cwV 0 hts gX7_tie_X4_empty rfl rfl rfl hd_X4_empty ⟨(Nat.le_of_ble_eq_true rfl), (Nat.le_of_ble_eq_true rfl)⟩) (recvK hK (P_left (wc := wX4 cA (ad 9) (s7 9)) (R := (tX7 ad (s7 6) ++ (wX5 cA (ad 0) (s7 0) ++ (wX2 cA (ad 1) (s7 1) ++ (wX6 cA (ad 2) (s7 2) ++ (wX6 cA (ad 3) (s7 3) ++ (wX6 cA (ad 4) (s7 4) ++ (wX6 cA (ad 5) (s7 5) ++ (wX1 cA (ad 7) (s7 7) ++ (wX0 cA (ad 8) (ad 2 0) (s7 8) ++ (wX3 cA (ad 10) (s7 10) ++ (wX3 cA (ad 11) (s7 11))))))))))))) (perm_of (fun c hc => by unfold wX7 wX7b; simp only [hc]; omega)) hP) 0 4 rfl rfl) hK hP hD hS hA (perm_of (fun c hc => by unfold wX7 wX7b; simp only [hc]; omega)) (perm_of (fun c hc => by rw [show wX7 cA ad (sX s7 9 z8) = wX7b cA ad (s7 0) (s7 1) (s7 2) (s7 3) (s7 4) (s7 5) (s7 6) (s7 7) (s7 8) z8 (s7 10) (s7 11) from rfl]; unfold wX7b; simp only [hc]; omega)) rfl hl.1 rfl (Nat.le_of_ble_eq_true rfl) dX7_tie_88 ⟨(Nat.le_of_ble_eq_true rfl), (Nat.le_of_ble_eq_true rfl)⟩ (fun H locs hP hD hS => ?_)
          obtain ⟨s9, es9⟩ : ∃ z, z = sX s7 9 z8 := ⟨_, rfl⟩
          rw [← es9] at hP hD
          have h := nm_ap es9 h
          refine lv_aload_n hx hb dX7_tie_91 rfl (lv_at hl 0 rfl) ?_
          refine va_get (D := D) (ci := 7) (v := .ref (ad 2 0)) (C := RX7) (T := TX7) (N := 12) hx hb hts hinX7 hown hK.1 hP 0 rfl rfl 2 (by decide) lkf26 (fun _ h9 => h9) rfl dX7_tie_92 ?_
          refine lv_iload_n hx hb dX7_tie_95 rfl (lv_at hl 1 rfl) ?_
          refine lv_iload_n hx hb dX7_tie_96 rfl (lv_at hl 2 rfl) ?_
          refine lv_iload_n hx hb dX7_tie_97 rfl (lv_at hl 3 rfl) ?_
          refine lv_iload hx hb dX7_tie_98 (lv_at hl 4 rfl) ?_
          refine lv_iload hx hb dX7_tie_100 (lv_at hl 5 rfl) ?_
          obtain ⟨z10, hz10, h⟩ := bd_some h
          refine pW_V (As := [.int x1, .int x2, .int x3, .int x4, .int x5]) (rest := []) (wr := (tX7 ad (s9 6) ++ (wX5 cA (ad 0) (s9 0) ++ (wX2 cA (ad 1) (s9 1) ++ (wX6 cA (ad 3) (s9 3) ++ (wX6 cA (ad 4) (s9 4) ++ (wX6 cA (ad 5) (s9 5) ++ (wX1 cA (ad 7) (s9 7) ++ (wX0 cA (ad 8) (ad 2 0) (s9 8) ++ (wX4 cA (ad 9) (s9 9) ++ (wX3 cA (ad 10) (s9 10) ++ (wX3 cA (ad 11) (s9 11))))))))))))) (wn := (wX7 cA ad (sX s9 2 z10.2))) ⟨hx, hb, hml, hown, hts⟩ (c_X6_addKnot l D cA (ad 2) (s9 2) x1 x2 x3 x4 x5 z10.1 z10.2 hz10) (cwV 5 hts gX7_tie_X6_addKnot rfl rfl rfl hd_X6_addKnot ⟨(Nat.le_of_ble_eq_true rfl), (Nat.le_of_ble_eq_true rfl)⟩) (recvK hK (P_left (wc := wX6 cA (ad 2) (s9 2)) (R := (tX7 ad (s9 6) ++ (wX5 cA (ad 0) (s9 0) ++ (wX2 cA (ad 1) (s9 1) ++ (wX6 cA (ad 3) (s9 3) ++ (wX6 cA (ad 4) (s9 4) ++ (wX6 cA (ad 5) (s9 5) ++ (wX1 cA (ad 7) (s9 7) ++ (wX0 cA (ad 8) (ad 2 0) (s9 8) ++ (wX4 cA (ad 9) (s9 9) ++ (wX3 cA (ad 10) (s9 10) ++ (wX3 cA (ad 11) (s9 11))))))))))))) (perm_of (fun c hc => by unfold wX7 wX7b; simp only [hc]; omega)) hP) 0 6 rfl rfl) hK hP hD hS hA (perm_of (fun c hc => by unfold wX7 wX7b; simp only [hc]; omega)) (perm_of (fun c hc => by rw [show wX7 cA ad (sX s9 2 z10.2) = wX7b cA ad (s9 0) (s9 1) z10.2 (s9 3) (s9 4) (s9 5) (s9 6) (s9 7) (s9 8) (s9 9) (s9 10) (s9 11) from rfl]; unfold wX7b; simp only [hc]; omega)) rfl hl.1 rfl (Nat.le_of_ble_eq_true rfl) dX7_tie_102 ⟨(Nat.le_of_ble_eq_true rfl), (Nat.le_of_ble_eq_true rfl)⟩ (fun H locs hP hD hS => ?_)
          obtain ⟨s11, es11⟩ : ∃ z, z = sX s9 2 z10.2 := ⟨_, rfl⟩
          rw [← es11] at hP hD
          have h := nm_ap es11 h
          refine lv_pop hx hb dX7_tie_105 rfl ?_
          refine lv_aload_n hx hb dX7_tie_106 rfl (lv_at hl 0 rfl) ?_
          refine va_get (D := D) (ci := 7) (v := .ref (ad 2 0)) (C := RX7) (T := TX7) (N := 12) hx hb hts hinX7 hown hK.1 hP 0 rfl rfl 2 (by decide) lkf26 (fun _ h9 => h9) rfl dX7_tie_107 ?_
          refine va_getN (D := D) (ci := 6) (v := .int ((s11 2).1 9)) (C := RX6) (T := TX6) (N := 12) hx hb hts hinX6 hown hK.1 (P_left (wc := wX6 cA (ad 2) (s11 2)) (R := (tX7 ad (s11 6) ++ (wX5 cA (ad 0) (s11 0) ++ (wX2 cA (ad 1) (s11 1) ++ (wX6 cA (ad 3) (s11 3) ++ (wX6 cA (ad 4) (s11 4) ++ (wX6 cA (ad 5) (s11 5) ++ (wX1 cA (ad 7) (s11 7) ++ (wX0 cA (ad 8) (ad 2 0) (s11 8) ++ (wX4 cA (ad 9) (s11 9) ++ (wX3 cA (ad 10) (s11 10) ++ (wX3 cA (ad 11) (s11 11))))))))))))) (perm_of (fun c hc => by unfold wX7 wX7b; simp only [hc]; omega)) hP) 0 rfl rfl 9 (by decide) lkf99 (fun _ h9 => h9) rfl dX7_tie_110 ?_
          refine lv_iconst (v := (1 : Int32)) hx hb dX7_tie_113 (by decide) ?_
          refine lv_isub hx hb dX7_tie_114 ?_
          cases h
          exact hend _ _ _ _ hP hD hS dX7_tie_115
        · have h := if_f hc h
          refine lv_bipush (v := (-3 : Int32)) hx hb dX7_tie_70 (by decide) ?_
          cases h
          exact hend _ _ _ _ hP hD hS dX7_tie_72
      · have h := if_t hc h
        refine lv_bipush (v := (-2 : Int32)) hx hb dX7_tie_55 (by decide) ?_
        cases h
        exact hend _ _ _ _ hP hD hS dX7_tie_57
  · have h := if_t hc h
    refine lv_iconst (v := (-1 : Int32)) hx hb dX7_tie_17 (by decide) ?_
    cases h
    exact hend _ _ _ _ hP hD hS dX7_tie_18
abbrev rmX7_pull : Room := ({ frames := 3, cells := 0, slots := 0, locals := 63 } : Room)
set_option maxHeartbeats 4000000 in
set_option maxRecDepth 100000 in
theorem c_X7_pull (l : Launch) (D : va_G) (cA : ClassId) (ad : (Nat → Nat → Nat)) (X : (Nat → Ob)) (x1 : Int32) (r : Int32) (X_ : (Nat → Ob)) (h : f_X7_pull X x1 = some (r, X_)) : ConW l yX7_pull wsX7_pull rmX7_pull D cA [.ref (ad 6 0), .int x1] (wX7 cA ad X) r (wX7 cA ad X_) := by
  refine ConW.enter (cc := cX7_pull) (maxL := 3) (by decide) rfl (Nat.le_of_ble_eq_true rfl) ?_
  intro p e s m args below meth c Q A hx hb hml hown hts hK hP hD hA hend ls hl
  have hS : va_S A s.heap s.heap [] := va_S.rf
  have hl : lv_has ls 3 [(0, .ref (ad 6 0)), (1, .int x1)] := hl
  unfold f_X7_pull at h
  have lkf26 := hts (.fieldLink RX7 26 "TiedToTown" "town" "LTiedToTown$Town;") (List.mem_of_getElem? (i := 1) rfl)
  have hinX7 : ∀ w ∈ wsX70, w ∈ wsX7_pull := fun w h => List.mem_cons_of_mem _ (List.mem_append_left _ (List.mem_append_left _ (List.mem_append_right _ h)))
  have lkf127 := va_Nw.use (w := Cond.fieldLinkNest RX7 127 "TiedToTown$Town" "tied" "I" "TiedToTown") rfl (A := args) (hK.2 _ (List.mem_of_getElem? (i := 20) rfl))
  have hinX6 : ∀ w ∈ wsX60, w ∈ wsX7_pull := fun w h => List.mem_cons_of_mem _ (List.mem_append_left _ (List.mem_append_right _ h))
  refine lv_aload_n hx hb dX7_pull_0 rfl (lv_at hl 0 rfl) ?_
  refine va_get (D := D) (ci := 7) (v := .ref (ad 2 0)) (C := RX7) (T := TX7) (N := 12) hx hb hts hinX7 hown hK.1 hP 0 rfl rfl 2 (by decide) lkf26 (fun _ h9 => h9) rfl dX7_pull_1 ?_
  refine lv_iload_n hx hb dX7_pull_4 rfl (lv_at hl 1 rfl) ?_
  obtain ⟨z1, hz1, h⟩ := bd_some h
  refine pR_V (As := [.int x1]) (rest := []) (wr := (tX7 ad (X 6) ++ (wX5 cA (ad 0) (X 0) ++ (wX2 cA (ad 1) (X 1) ++ (wX6 cA (ad 3) (X 3) ++ (wX6 cA (ad 4) (X 4) ++ (wX6 cA (ad 5) (X 5) ++ (wX1 cA (ad 7) (X 7) ++ (wX0 cA (ad 8) (ad 2 0) (X 8) ++ (wX4 cA (ad 9) (X 9) ++ (wX3 cA (ad 10) (X 10) ++ (wX3 cA (ad 11) (X 11))))))))))))) ⟨hx, hb, hml, hown, hts⟩ (c_X6_isKnot l D cA (ad 2) (X 2) x1 z1 hz1) (cwV 1 hts gX7_pull_X6_isKnot rfl rfl rfl hd_X6_isKnot ⟨(Nat.le_of_ble_eq_true rfl), (Nat.le_of_ble_eq_true rfl)⟩) (recvK hK (P_left (wc := wX6 cA (ad 2) (X 2)) (R := (tX7 ad (X 6) ++ (wX5 cA (ad 0) (X 0) ++ (wX2 cA (ad 1) (X 1) ++ (wX6 cA (ad 3) (X 3) ++ (wX6 cA (ad 4) (X 4) ++ (wX6 cA (ad 5) (X 5) ++ (wX1 cA (ad 7) (X 7) ++ (wX0 cA (ad 8) (ad 2 0) (X 8) ++ (wX4 cA (ad 9) (X 9) ++ (wX3 cA (ad 10) (X 10) ++ (wX3 cA (ad 11) (X 11))))))))))))) (perm_of (fun c hc => by unfold wX7 wX7b; simp only [hc]; omega)) hP) 0 6 rfl rfl) hK hP (perm_of (fun c hc => by unfold wX7 wX7b; simp only [hc]; omega)) rfl hl.1 rfl (Nat.le_of_ble_eq_true rfl) dX7_pull_5 ⟨(Nat.le_of_ble_eq_true rfl), (Nat.le_of_ble_eq_true rfl)⟩ ?_
  refine lv_if_ne (tgt := 13) hx hb dX7_pull_8 (by decide) (fun hc => ?_) (fun hc => ?_)
  · have h := if_f hc h
    refine lv_iload_n hx hb dX7_pull_13 rfl (lv_at hl 1 rfl) ?_
    obtain ⟨z2, hz2, h⟩ := bd_some h
    refine cR_S (As := [.int x1]) (rest := []) ⟨hx, hb, hml, hown, hts⟩ (c_X7_bit l D cA  x1 z2 hz2) (va_cwS 1 hts gX7_pull_X7_bit rfl rfl rfl hd_X7_bit.2 ⟨(Nat.le_of_ble_eq_true rfl), (Nat.le_of_ble_eq_true rfl)⟩) hK hP [] rfl rfl hl.1 rfl (Nat.le_of_ble_eq_true rfl) dX7_pull_14 ⟨(Nat.le_of_ble_eq_true rfl), (Nat.le_of_ble_eq_true rfl)⟩ ?_
    refine lv_aload_n hx hb dX7_pull_17 rfl (lv_at hl 0 rfl) ?_
    refine va_get (D := D) (ci := 7) (v := .ref (ad 2 0)) (C := RX7) (T := TX7) (N := 12) hx hb hts hinX7 hown hK.1 hP 0 rfl rfl 2 (by decide) lkf26 (fun _ h9 => h9) rfl dX7_pull_18 ?_
    refine lv_iload_n hx hb dX7_pull_21 rfl (lv_at hl 1 rfl) ?_
    obtain ⟨z3, hz3, h⟩ := bd_some h
    refine pR_V (As := [.int x1]) (rest := [.int z2]) (wr := (tX7 ad (X 6) ++ (wX5 cA (ad 0) (X 0) ++ (wX2 cA (ad 1) (X 1) ++ (wX6 cA (ad 3) (X 3) ++ (wX6 cA (ad 4) (X 4) ++ (wX6 cA (ad 5) (X 5) ++ (wX1 cA (ad 7) (X 7) ++ (wX0 cA (ad 8) (ad 2 0) (X 8) ++ (wX4 cA (ad 9) (X 9) ++ (wX3 cA (ad 10) (X 10) ++ (wX3 cA (ad 11) (X 11))))))))))))) ⟨hx, hb, hml, hown, hts⟩ (c_X6_above l D cA (ad 2) (X 2) x1 z3 hz3) (cwV 1 hts gX7_pull_X6_above rfl rfl rfl hd_X6_above ⟨(Nat.le_of_ble_eq_true rfl), (Nat.le_of_ble_eq_true rfl)⟩) (recvK hK (P_left (wc := wX6 cA (ad 2) (X 2)) (R := (tX7 ad (X 6) ++ (wX5 cA (ad 0) (X 0) ++ (wX2 cA (ad 1) (X 1) ++ (wX6 cA (ad 3) (X 3) ++ (wX6 cA (ad 4) (X 4) ++ (wX6 cA (ad 5) (X 5) ++ (wX1 cA (ad 7) (X 7) ++ (wX0 cA (ad 8) (ad 2 0) (X 8) ++ (wX4 cA (ad 9) (X 9) ++ (wX3 cA (ad 10) (X 10) ++ (wX3 cA (ad 11) (X 11))))))))))))) (perm_of (fun c hc => by unfold wX7 wX7b; simp only [hc]; omega)) hP) 0 6 rfl rfl) hK hP (perm_of (fun c hc => by unfold wX7 wX7b; simp only [hc]; omega)) rfl hl.1 rfl (Nat.le_of_ble_eq_true rfl) dX7_pull_22 ⟨(Nat.le_of_ble_eq_true rfl), (Nat.le_of_ble_eq_true rfl)⟩ ?_
    refine lv_ior hx hb dX7_pull_25 ?_
    refine lv_topi (fun v4 ev4 => ?_)
    have h := nm_ap ev4 h
    refine lv_istore_n (lv' := [(2, .int v4), (0, .ref (ad 6 0)), (1, .int x1)]) hx hb dX7_pull_26 rfl hl (by decide) rfl (fun ls hl => ?_)
    refine lv_aload_n hx hb dX7_pull_27 rfl (lv_at hl 1 rfl) ?_
    refine va_get (D := D) (ci := 7) (v := .ref (ad 2 0)) (C := RX7) (T := TX7) (N := 12) hx hb hts hinX7 hown hK.1 hP 0 rfl rfl 2 (by decide) lkf26 (fun _ h9 => h9) rfl dX7_pull_28 ?_
    refine va_getN (D := D) (ci := 6) (v := .int ((X 2).1 10)) (C := RX6) (T := TX6) (N := 12) hx hb hts hinX6 hown hK.1 (P_left (wc := wX6 cA (ad 2) (X 2)) (R := (tX7 ad (X 6) ++ (wX5 cA (ad 0) (X 0) ++ (wX2 cA (ad 1) (X 1) ++ (wX6 cA (ad 3) (X 3) ++ (wX6 cA (ad 4) (X 4) ++ (wX6 cA (ad 5) (X 5) ++ (wX1 cA (ad 7) (X 7) ++ (wX0 cA (ad 8) (ad 2 0) (X 8) ++ (wX4 cA (ad 9) (X 9) ++ (wX3 cA (ad 10) (X 10) ++ (wX3 cA (ad 11) (X 11))))))))))))) (perm_of (fun c hc => by unfold wX7 wX7b; simp only [hc]; omega)) hP) 0 rfl rfl 10 (by decide) lkf127 (fun _ h9 => h9) rfl dX7_pull_31 ?_
    refine lv_iload_n hx hb dX7_pull_34 rfl (lv_at hl 2 rfl) ?_
    obtain ⟨z5, hz5, h⟩ := bd_some h
    refine cR_S (As := [.int ((X 2).1 10), .int x1]) (rest := []) ⟨hx, hb, hml, hown, hts⟩ (c_X7_has l D cA  ((X 2).1 10) x1 z5 hz5) (va_cwS 2 hts gX7_pull_X7_has rfl rfl rfl hd_X7_has.2 ⟨(Nat.le_of_ble_eq_true rfl), (Nat.le_of_ble_eq_true rfl)⟩) hK hP [] rfl rfl hl.1 rfl (Nat.le_of_ble_eq_true rfl) dX7_pull_35 ⟨(Nat.le_of_ble_eq_true rfl), (Nat.le_of_ble_eq_true rfl)⟩ ?_
    refine lv_if_eq (tgt := 56) hx hb dX7_pull_38 (by decide) (fun hc => ?_) (fun hc => ?_)
    · have h := if_t hc h
      refine lv_bipush (v := (-2 : Int32)) hx hb dX7_pull_56 (by decide) ?_
      cases h
      exact hend _ _ _ _ hP hD hS dX7_pull_58
    · have h := if_f hc h
      refine lv_iload_n hx hb dX7_pull_41 rfl (lv_at hl 0 rfl) ?_
      refine lv_aload_n hx hb dX7_pull_42 rfl (lv_at hl 1 rfl) ?_
      refine va_get (D := D) (ci := 7) (v := .ref (ad 2 0)) (C := RX7) (T := TX7) (N := 12) hx hb hts hinX7 hown hK.1 hP 0 rfl rfl 2 (by decide) lkf26 (fun _ h9 => h9) rfl dX7_pull_43 ?_
      refine lv_iconst (v := (1 : Int32)) hx hb dX7_pull_46 (by decide) ?_
      obtain ⟨z6, hz6, h⟩ := bd_some h
      refine pR_V (As := [.int (1 : Int32)]) (rest := [.int v4]) (wr := (tX7 ad (X 6) ++ (wX5 cA (ad 0) (X 0) ++ (wX2 cA (ad 1) (X 1) ++ (wX6 cA (ad 3) (X 3) ++ (wX6 cA (ad 4) (X 4) ++ (wX6 cA (ad 5) (X 5) ++ (wX1 cA (ad 7) (X 7) ++ (wX0 cA (ad 8) (ad 2 0) (X 8) ++ (wX4 cA (ad 9) (X 9) ++ (wX3 cA (ad 10) (X 10) ++ (wX3 cA (ad 11) (X 11))))))))))))) ⟨hx, hb, hml, hown, hts⟩ (c_X6_ofKind l D cA (ad 2) (X 2) (1 : Int32) z6 hz6) (cwV 1 hts gX7_pull_X6_ofKind rfl rfl rfl hd_X6_ofKind ⟨(Nat.le_of_ble_eq_true rfl), (Nat.le_of_ble_eq_true rfl)⟩) (recvK hK (P_left (wc := wX6 cA (ad 2) (X 2)) (R := (tX7 ad (X 6) ++ (wX5 cA (ad 0) (X 0) ++ (wX2 cA (ad 1) (X 1) ++ (wX6 cA (ad 3) (X 3) ++ (wX6 cA (ad 4) (X 4) ++ (wX6 cA (ad 5) (X 5) ++ (wX1 cA (ad 7) (X 7) ++ (wX0 cA (ad 8) (ad 2 0) (X 8) ++ (wX4 cA (ad 9) (X 9) ++ (wX3 cA (ad 10) (X 10) ++ (wX3 cA (ad 11) (X 11))))))))))))) (perm_of (fun c hc => by unfold wX7 wX7b; simp only [hc]; omega)) hP) 0 6 rfl rfl) hK hP (perm_of (fun c hc => by unfold wX7 wX7b; simp only [hc]; omega)) rfl hl.1 rfl (Nat.le_of_ble_eq_true rfl) dX7_pull_47 ⟨(Nat.le_of_ble_eq_true rfl), (Nat.le_of_ble_eq_true rfl)⟩ ?_
      obtain ⟨z7, hz7, h⟩ := bd_some h
      refine cR_S (As := [.int v4, .int z6]) (rest := []) ⟨hx, hb, hml, hown, hts⟩ (c_X7_isWithin l D cA  v4 z6 z7 hz7) (va_cwS 2 hts gX7_pull_X7_isWithin rfl rfl rfl hd_X7_isWithin.2 ⟨(Nat.le_of_ble_eq_true rfl), (Nat.le_of_ble_eq_true rfl)⟩) hK hP [] rfl rfl hl.1 rfl (Nat.le_of_ble_eq_true rfl) dX7_pull_50 ⟨(Nat.le_of_ble_eq_true rfl), (Nat.le_of_ble_eq_true rfl)⟩ ?_
      refine lv_if_ne (tgt := 59) hx hb dX7_pull_53 (by decide) (fun hc => ?_) (fun hc => ?_)
      · have h := if_f hc h
        refine lv_aload_n hx hb dX7_pull_59 rfl (lv_at hl 1 rfl) ?_
        refine lv_iload_n hx hb dX7_pull_60 rfl (lv_at hl 0 rfl) ?_
        obtain ⟨z8, hz8, h⟩ := bd_some h
        refine pW_V (As := [.int v4]) (rest := []) (wr := ([] : va_W)) (wn := (wX7 cA ad z8.2)) ⟨hx, hb, hml, hown, hts⟩ (c_X7_removeTied l D cA ad X v4 z8.1 z8.2 hz8) (cwV 1 hts gX7_pull_X7_removeTied rfl rfl rfl hd_X7_removeTied ⟨(Nat.le_of_ble_eq_true rfl), (Nat.le_of_ble_eq_true rfl)⟩) (recvK hK hP 0 7 rfl rfl) hK hP hD hS hA perm_nil (by rw [List.append_nil]) rfl hl.1 rfl (Nat.le_of_ble_eq_true rfl) dX7_pull_61 ⟨(Nat.le_of_ble_eq_true rfl), (Nat.le_of_ble_eq_true rfl)⟩ (fun H locs hP hD hS => ?_)
        cases h
        exact hend _ _ _ _ hP hD hS dX7_pull_64
      · have h := if_t hc h
        refine lv_bipush (v := (-2 : Int32)) hx hb dX7_pull_56 (by decide) ?_
        cases h
        exact hend _ _ _ _ hP hD hS dX7_pull_58
  · have h := if_t hc h
    refine lv_iconst (v := (-1 : Int32)) hx hb dX7_pull_11 (by decide) ?_
    cases h
    exact hend _ _ _ _ hP hD hS dX7_pull_12
abbrev rmX7_cut : Room := ({ frames := 3, cells := 0, slots := 0, locals := 63 } : Room)
set_option maxHeartbeats 4000000 in
set_option maxRecDepth 100000 in
theorem c_X7_cut (l : Launch) (D : va_G) (cA : ClassId) (ad : (Nat → Nat → Nat)) (X : (Nat → Ob)) (x1 : Int32) (r : Int32) (X_ : (Nat → Ob)) (h : f_X7_cut X x1 = some (r, X_)) : ConW l yX7_cut wsX7_cut rmX7_cut D cA [.ref (ad 6 0), .int x1] (wX7 cA ad X) r (wX7 cA ad X_) := by
  refine ConW.enter (cc := cX7_cut) (maxL := 2) (by decide) rfl (Nat.le_of_ble_eq_true rfl) ?_
  intro p e s m args below meth c Q A hx hb hml hown hts hK hP hD hA hend ls hl
  have hS : va_S A s.heap s.heap [] := va_S.rf
  have hl : lv_has ls 2 [(0, .ref (ad 6 0)), (1, .int x1)] := hl
  unfold f_X7_cut at h
  have lkf26 := hts (.fieldLink RX7 26 "TiedToTown" "town" "LTiedToTown$Town;") (List.mem_of_getElem? (i := 1) rfl)
  have hinX7 : ∀ w ∈ wsX70, w ∈ wsX7_cut := fun w h => List.mem_cons_of_mem _ (List.mem_append_left _ (List.mem_append_left _ (List.mem_append_right _ h)))
  have lkf127 := va_Nw.use (w := Cond.fieldLinkNest RX7 127 "TiedToTown$Town" "tied" "I" "TiedToTown") rfl (A := args) (hK.2 _ (List.mem_of_getElem? (i := 20) rfl))
  have hinX6 : ∀ w ∈ wsX60, w ∈ wsX7_cut := fun w h => List.mem_cons_of_mem _ (List.mem_append_left _ (List.mem_append_right _ h))
  refine lv_aload_n hx hb dX7_cut_0 rfl (lv_at hl 0 rfl) ?_
  refine va_get (D := D) (ci := 7) (v := .ref (ad 2 0)) (C := RX7) (T := TX7) (N := 12) hx hb hts hinX7 hown hK.1 hP 0 rfl rfl 2 (by decide) lkf26 (fun _ h9 => h9) rfl dX7_cut_1 ?_
  refine lv_iload_n hx hb dX7_cut_4 rfl (lv_at hl 1 rfl) ?_
  obtain ⟨z1, hz1, h⟩ := bd_some h
  refine pR_V (As := [.int x1]) (rest := []) (wr := (tX7 ad (X 6) ++ (wX5 cA (ad 0) (X 0) ++ (wX2 cA (ad 1) (X 1) ++ (wX6 cA (ad 3) (X 3) ++ (wX6 cA (ad 4) (X 4) ++ (wX6 cA (ad 5) (X 5) ++ (wX1 cA (ad 7) (X 7) ++ (wX0 cA (ad 8) (ad 2 0) (X 8) ++ (wX4 cA (ad 9) (X 9) ++ (wX3 cA (ad 10) (X 10) ++ (wX3 cA (ad 11) (X 11))))))))))))) ⟨hx, hb, hml, hown, hts⟩ (c_X6_isKnot l D cA (ad 2) (X 2) x1 z1 hz1) (cwV 1 hts gX7_cut_X6_isKnot rfl rfl rfl hd_X6_isKnot ⟨(Nat.le_of_ble_eq_true rfl), (Nat.le_of_ble_eq_true rfl)⟩) (recvK hK (P_left (wc := wX6 cA (ad 2) (X 2)) (R := (tX7 ad (X 6) ++ (wX5 cA (ad 0) (X 0) ++ (wX2 cA (ad 1) (X 1) ++ (wX6 cA (ad 3) (X 3) ++ (wX6 cA (ad 4) (X 4) ++ (wX6 cA (ad 5) (X 5) ++ (wX1 cA (ad 7) (X 7) ++ (wX0 cA (ad 8) (ad 2 0) (X 8) ++ (wX4 cA (ad 9) (X 9) ++ (wX3 cA (ad 10) (X 10) ++ (wX3 cA (ad 11) (X 11))))))))))))) (perm_of (fun c hc => by unfold wX7 wX7b; simp only [hc]; omega)) hP) 0 6 rfl rfl) hK hP (perm_of (fun c hc => by unfold wX7 wX7b; simp only [hc]; omega)) rfl hl.1 rfl (Nat.le_of_ble_eq_true rfl) dX7_cut_5 ⟨(Nat.le_of_ble_eq_true rfl), (Nat.le_of_ble_eq_true rfl)⟩ ?_
  refine lv_if_ne (tgt := 13) hx hb dX7_cut_8 (by decide) (fun hc => ?_) (fun hc => ?_)
  · have h := if_f hc h
    refine lv_aload_n hx hb dX7_cut_13 rfl (lv_at hl 0 rfl) ?_
    refine va_get (D := D) (ci := 7) (v := .ref (ad 2 0)) (C := RX7) (T := TX7) (N := 12) hx hb hts hinX7 hown hK.1 hP 0 rfl rfl 2 (by decide) lkf26 (fun _ h9 => h9) rfl dX7_cut_14 ?_
    refine va_getN (D := D) (ci := 6) (v := .int ((X 2).1 10)) (C := RX6) (T := TX6) (N := 12) hx hb hts hinX6 hown hK.1 (P_left (wc := wX6 cA (ad 2) (X 2)) (R := (tX7 ad (X 6) ++ (wX5 cA (ad 0) (X 0) ++ (wX2 cA (ad 1) (X 1) ++ (wX6 cA (ad 3) (X 3) ++ (wX6 cA (ad 4) (X 4) ++ (wX6 cA (ad 5) (X 5) ++ (wX1 cA (ad 7) (X 7) ++ (wX0 cA (ad 8) (ad 2 0) (X 8) ++ (wX4 cA (ad 9) (X 9) ++ (wX3 cA (ad 10) (X 10) ++ (wX3 cA (ad 11) (X 11))))))))))))) (perm_of (fun c hc => by unfold wX7 wX7b; simp only [hc]; omega)) hP) 0 rfl rfl 10 (by decide) lkf127 (fun _ h9 => h9) rfl dX7_cut_17 ?_
    refine lv_iload_n hx hb dX7_cut_20 rfl (lv_at hl 1 rfl) ?_
    obtain ⟨z2, hz2, h⟩ := bd_some h
    refine cR_S (As := [.int ((X 2).1 10), .int x1]) (rest := []) ⟨hx, hb, hml, hown, hts⟩ (c_X7_has l D cA  ((X 2).1 10) x1 z2 hz2) (va_cwS 2 hts gX7_cut_X7_has rfl rfl rfl hd_X7_has.2 ⟨(Nat.le_of_ble_eq_true rfl), (Nat.le_of_ble_eq_true rfl)⟩) hK hP [] rfl rfl hl.1 rfl (Nat.le_of_ble_eq_true rfl) dX7_cut_21 ⟨(Nat.le_of_ble_eq_true rfl), (Nat.le_of_ble_eq_true rfl)⟩ ?_
    refine lv_if_ne (tgt := 30) hx hb dX7_cut_24 (by decide) (fun hc => ?_) (fun hc => ?_)
    · have h := if_f hc h
      refine lv_aload_n hx hb dX7_cut_30 rfl (lv_at hl 0 rfl) ?_
      refine lv_iload_n hx hb dX7_cut_31 rfl (lv_at hl 1 rfl) ?_
      obtain ⟨z3, hz3, h⟩ := bd_some h
      refine cR_S (As := [.int x1]) (rest := [.ref (ad 6 0)]) ⟨hx, hb, hml, hown, hts⟩ (c_X7_bit l D cA  x1 z3 hz3) (va_cwS 1 hts gX7_cut_X7_bit rfl rfl rfl hd_X7_bit.2 ⟨(Nat.le_of_ble_eq_true rfl), (Nat.le_of_ble_eq_true rfl)⟩) hK hP [] rfl rfl hl.1 rfl (Nat.le_of_ble_eq_true rfl) dX7_cut_32 ⟨(Nat.le_of_ble_eq_true rfl), (Nat.le_of_ble_eq_true rfl)⟩ ?_
      refine lv_aload_n hx hb dX7_cut_35 rfl (lv_at hl 0 rfl) ?_
      refine va_get (D := D) (ci := 7) (v := .ref (ad 2 0)) (C := RX7) (T := TX7) (N := 12) hx hb hts hinX7 hown hK.1 hP 0 rfl rfl 2 (by decide) lkf26 (fun _ h9 => h9) rfl dX7_cut_36 ?_
      refine lv_iload_n hx hb dX7_cut_39 rfl (lv_at hl 1 rfl) ?_
      obtain ⟨z4, hz4, h⟩ := bd_some h
      refine pR_V (As := [.int x1]) (rest := [.int z3, .ref (ad 6 0)]) (wr := (tX7 ad (X 6) ++ (wX5 cA (ad 0) (X 0) ++ (wX2 cA (ad 1) (X 1) ++ (wX6 cA (ad 3) (X 3) ++ (wX6 cA (ad 4) (X 4) ++ (wX6 cA (ad 5) (X 5) ++ (wX1 cA (ad 7) (X 7) ++ (wX0 cA (ad 8) (ad 2 0) (X 8) ++ (wX4 cA (ad 9) (X 9) ++ (wX3 cA (ad 10) (X 10) ++ (wX3 cA (ad 11) (X 11))))))))))))) ⟨hx, hb, hml, hown, hts⟩ (c_X6_above l D cA (ad 2) (X 2) x1 z4 hz4) (cwV 1 hts gX7_cut_X6_above rfl rfl rfl hd_X6_above ⟨(Nat.le_of_ble_eq_true rfl), (Nat.le_of_ble_eq_true rfl)⟩) (recvK hK (P_left (wc := wX6 cA (ad 2) (X 2)) (R := (tX7 ad (X 6) ++ (wX5 cA (ad 0) (X 0) ++ (wX2 cA (ad 1) (X 1) ++ (wX6 cA (ad 3) (X 3) ++ (wX6 cA (ad 4) (X 4) ++ (wX6 cA (ad 5) (X 5) ++ (wX1 cA (ad 7) (X 7) ++ (wX0 cA (ad 8) (ad 2 0) (X 8) ++ (wX4 cA (ad 9) (X 9) ++ (wX3 cA (ad 10) (X 10) ++ (wX3 cA (ad 11) (X 11))))))))))))) (perm_of (fun c hc => by unfold wX7 wX7b; simp only [hc]; omega)) hP) 0 6 rfl rfl) hK hP (perm_of (fun c hc => by unfold wX7 wX7b; simp only [hc]; omega)) rfl hl.1 rfl (Nat.le_of_ble_eq_true rfl) dX7_cut_40 ⟨(Nat.le_of_ble_eq_true rfl), (Nat.le_of_ble_eq_true rfl)⟩ ?_
      refine lv_ior hx hb dX7_cut_43 ?_
      obtain ⟨z5, hz5, h⟩ := bd_some h
      refine pW_V (As := [.int (z3 ||| z4)]) (rest := []) (wr := ([] : va_W)) (wn := (wX7 cA ad z5.2)) ⟨hx, hb, hml, hown, hts⟩ (c_X7_removeTied l D cA ad X (z3 ||| z4) z5.1 z5.2 hz5) (cwV 1 hts gX7_cut_X7_removeTied rfl rfl rfl hd_X7_removeTied ⟨(Nat.le_of_ble_eq_true rfl), (Nat.le_of_ble_eq_true rfl)⟩) (recvK hK hP 0 7 rfl rfl) hK hP hD hS hA perm_nil (by rw [List.append_nil]) rfl hl.1 rfl (Nat.le_of_ble_eq_true rfl) dX7_cut_44 ⟨(Nat.le_of_ble_eq_true rfl), (Nat.le_of_ble_eq_true rfl)⟩ (fun H locs hP hD hS => ?_)
      cases h
      exact hend _ _ _ _ hP hD hS dX7_cut_47
    · have h := if_t hc h
      refine lv_bipush (v := (-2 : Int32)) hx hb dX7_cut_27 (by decide) ?_
      cases h
      exact hend _ _ _ _ hP hD hS dX7_cut_29
  · have h := if_t hc h
    refine lv_iconst (v := (-1 : Int32)) hx hb dX7_cut_11 (by decide) ?_
    cases h
    exact hend _ _ _ _ hP hD hS dX7_cut_12
abbrev rmX7_days : Room := ({ frames := 2, cells := 0, slots := 0, locals := 42 } : Room)
set_option maxHeartbeats 4000000 in
set_option maxRecDepth 100000 in
theorem c_X7_days (l : Launch) (D : va_G) (cA : ClassId) (ad : (Nat → Nat → Nat)) (X : (Nat → Ob)) (x1 : Int32) (r : Int32) (X_ : (Nat → Ob)) (h : f_X7_days X x1 = some (r, X_)) : ConW l yX7_days wsX7_days rmX7_days D cA [.ref (ad 6 0), .int x1] (wX7 cA ad X) r (wX7 cA ad X_) := by
  refine ConW.enter (cc := cX7_days) (maxL := 2) (by decide) rfl (Nat.le_of_ble_eq_true rfl) ?_
  intro p e s m args below meth c Q A hx hb hml hown hts hK hP hD hA hend ls hl
  have hS : va_S A s.heap s.heap [] := va_S.rf
  have hl : lv_has ls 2 [(0, .ref (ad 6 0)), (1, .int x1)] := hl
  unfold f_X7_days at h
  have lkf26 := hts (.fieldLink RX7 26 "TiedToTown" "town" "LTiedToTown$Town;") (List.mem_of_getElem? (i := 1) rfl)
  have hinX7 : ∀ w ∈ wsX70, w ∈ wsX7_days := fun w h => List.mem_cons_of_mem _ (List.mem_append_left _ (List.mem_append_left _ (List.mem_append_right _ h)))
  have lkf177 := va_Nw.use (w := Cond.fieldLinkNest RX7 177 "TiedToTown$Town" "day" "I" "TiedToTown") rfl (A := args) (hK.2 _ (List.mem_of_getElem? (i := 23) rfl))
  have hinX6 : ∀ w ∈ wsX60, w ∈ wsX7_days := fun w h => List.mem_cons_of_mem _ (List.mem_append_left _ (List.mem_append_right _ h))
  have lkf46 := hts (.fieldLink RX7 46 "TiedToTown" "past" "LTiedToTown$Past;") (List.mem_of_getElem? (i := 2) rfl)
  refine lv_iload_n hx hb dX7_days_0 rfl (lv_at hl 1 rfl) ?_
  refine lv_iconst (v := (1 : Int32)) hx hb dX7_days_1 (by decide) ?_
  refine lv_icmp_lt (tgt := 11) hx hb dX7_days_2 (by decide) (fun hc => ?_) (fun hc => ?_)
  · have h := if_t hc h
    refine lv_iconst (v := (-1 : Int32)) hx hb dX7_days_11 (by decide) ?_
    cases h
    exact hend _ _ _ _ hP hD hS dX7_days_12
  · have h := if_f hc h
    refine lv_iload_n hx hb dX7_days_5 rfl (lv_at hl 1 rfl) ?_
    refine lv_bipush (v := (99 : Int32)) hx hb dX7_days_6 (by decide) ?_
    refine lv_icmp_le (tgt := 13) hx hb dX7_days_8 (by decide) (fun hc => ?_) (fun hc => ?_)
    · have h := if_t hc h
      refine lv_aload_n hx hb dX7_days_13 rfl (lv_at hl 0 rfl) ?_
      refine va_get (D := D) (ci := 7) (v := .ref (ad 2 0)) (C := RX7) (T := TX7) (N := 12) hx hb hts hinX7 hown hK.1 hP 0 rfl rfl 2 (by decide) lkf26 (fun _ h9 => h9) rfl dX7_days_14 ?_
      refine va_getN (D := D) (ci := 6) (v := .int ((X 2).1 11)) (C := RX6) (T := TX6) (N := 12) hx hb hts hinX6 hown hK.1 (P_left (wc := wX6 cA (ad 2) (X 2)) (R := (tX7 ad (X 6) ++ (wX5 cA (ad 0) (X 0) ++ (wX2 cA (ad 1) (X 1) ++ (wX6 cA (ad 3) (X 3) ++ (wX6 cA (ad 4) (X 4) ++ (wX6 cA (ad 5) (X 5) ++ (wX1 cA (ad 7) (X 7) ++ (wX0 cA (ad 8) (ad 2 0) (X 8) ++ (wX4 cA (ad 9) (X 9) ++ (wX3 cA (ad 10) (X 10) ++ (wX3 cA (ad 11) (X 11))))))))))))) (perm_of (fun c hc => by unfold wX7 wX7b; simp only [hc]; omega)) hP) 0 rfl rfl 11 (by decide) lkf177 (fun _ h9 => h9) rfl dX7_days_17 ?_
      refine lv_iload_n hx hb dX7_days_20 rfl (lv_at hl 1 rfl) ?_
      refine lv_iadd hx hb dX7_days_21 ?_
      refine lv_bipush (v := (99 : Int32)) hx hb dX7_days_22 (by decide) ?_
      refine lv_icmp_le (tgt := 30) hx hb dX7_days_24 (by decide) (fun hc => ?_) (fun hc => ?_)
      · have h := if_t hc h
        refine lv_aload_n hx hb dX7_days_30 rfl (lv_at hl 0 rfl) ?_
        refine va_get (D := D) (ci := 7) (v := .ref (ad 7 0)) (C := RX7) (T := TX7) (N := 12) hx hb hts hinX7 hown hK.1 hP 0 rfl rfl 7 (by decide) lkf46 (fun _ h9 => h9) rfl dX7_days_31 ?_
        refine lv_aload_n hx hb dX7_days_34 rfl (lv_at hl 0 rfl) ?_
        refine va_get (D := D) (ci := 7) (v := .ref (ad 2 0)) (C := RX7) (T := TX7) (N := 12) hx hb hts hinX7 hown hK.1 hP 0 rfl rfl 2 (by decide) lkf26 (fun _ h9 => h9) rfl dX7_days_35 ?_
        obtain ⟨z1, hz1, h⟩ := bd_some h
        refine pV_V (As := [.ref (ad 2 0)]) (rest := []) (wr := (tX7 ad (X 6) ++ (wX5 cA (ad 0) (X 0) ++ (wX2 cA (ad 1) (X 1) ++ (wX6 cA (ad 3) (X 3) ++ (wX6 cA (ad 4) (X 4) ++ (wX6 cA (ad 5) (X 5) ++ (wX0 cA (ad 8) (ad 2 0) (X 8) ++ (wX4 cA (ad 9) (X 9) ++ (wX3 cA (ad 10) (X 10) ++ (wX3 cA (ad 11) (X 11)))))))))))) (wn := (wX7 cA ad (sX X 7 z1))) ⟨hx, hb, hml, hown, hts⟩ (c_X1_note l D cA (ad 7) (X 7) (ad 2) (X 2)   z1 hz1) (cwV 1 hts gX7_days_X1_note rfl rfl rfl hd_X1_note ⟨(Nat.le_of_ble_eq_true rfl), (Nat.le_of_ble_eq_true rfl)⟩) (recvK hK (P_left (wc := wX1 cA (ad 7) (X 7)) (R := (tX7 ad (X 6) ++ (wX5 cA (ad 0) (X 0) ++ (wX2 cA (ad 1) (X 1) ++ (wX6 cA (ad 2) (X 2) ++ (wX6 cA (ad 3) (X 3) ++ (wX6 cA (ad 4) (X 4) ++ (wX6 cA (ad 5) (X 5) ++ (wX0 cA (ad 8) (ad 2 0) (X 8) ++ (wX4 cA (ad 9) (X 9) ++ (wX3 cA (ad 10) (X 10) ++ (wX3 cA (ad 11) (X 11))))))))))))) (perm_of (fun c hc => by unfold wX7 wX7b; simp only [hc]; omega)) hP) 0 1 rfl rfl) hK hP hD hS hA (perm_of (fun c hc => by unfold wX7 wX7b; simp only [hc]; omega)) (perm_of (fun c hc => by rw [show wX7 cA ad (sX X 7 z1) = wX7b cA ad (X 0) (X 1) (X 2) (X 3) (X 4) (X 5) (X 6) z1 (X 8) (X 9) (X 10) (X 11) from rfl]; unfold wX7b; simp only [hc]; omega)) rfl hl.1 rfl (Nat.le_of_ble_eq_true rfl) dX7_days_38 ⟨(Nat.le_of_ble_eq_true rfl), (Nat.le_of_ble_eq_true rfl)⟩ (fun H locs hP hD hS => ?_)
        obtain ⟨s2, es2⟩ : ∃ z, z = sX X 7 z1 := ⟨_, rfl⟩
        rw [← es2] at hP hD
        have h := nm_ap es2 h
        refine lv_aload_n hx hb dX7_days_41 rfl (lv_at hl 0 rfl) ?_
        refine va_get (D := D) (ci := 7) (v := .ref (ad 2 0)) (C := RX7) (T := TX7) (N := 12) hx hb hts hinX7 hown hK.1 hP 0 rfl rfl 2 (by decide) lkf26 (fun _ h9 => h9) rfl dX7_days_42 ?_
        refine lv_dup hx hb dX7_days_45 rfl ?_
        refine va_getN (D := D) (ci := 6) (v := .int ((s2 2).1 11)) (C := RX6) (T := TX6) (N := 12) hx hb hts hinX6 hown hK.1 (P_left (wc := wX6 cA (ad 2) (s2 2)) (R := (tX7 ad (s2 6) ++ (wX5 cA (ad 0) (s2 0) ++ (wX2 cA (ad 1) (s2 1) ++ (wX6 cA (ad 3) (s2 3) ++ (wX6 cA (ad 4) (s2 4) ++ (wX6 cA (ad 5) (s2 5) ++ (wX1 cA (ad 7) (s2 7) ++ (wX0 cA (ad 8) (ad 2 0) (s2 8) ++ (wX4 cA (ad 9) (s2 9) ++ (wX3 cA (ad 10) (s2 10) ++ (wX3 cA (ad 11) (s2 11))))))))))))) (perm_of (fun c hc => by unfold wX7 wX7b; simp only [hc]; omega)) hP) 0 rfl rfl 11 (by decide) lkf177 (fun _ h9 => h9) rfl dX7_days_46 ?_
        refine lv_iload_n hx hb dX7_days_49 rfl (lv_at hl 1 rfl) ?_
        refine lv_iadd hx hb dX7_days_50 ?_
        have hP := P_perm (b := wX6 cA (ad 2) (s2 2) ++ (tX7 ad (s2 6) ++ (wX5 cA (ad 0) (s2 0) ++ (wX2 cA (ad 1) (s2 1) ++ (wX6 cA (ad 3) (s2 3) ++ (wX6 cA (ad 4) (s2 4) ++ (wX6 cA (ad 5) (s2 5) ++ (wX1 cA (ad 7) (s2 7) ++ (wX0 cA (ad 8) (ad 2 0) (s2 8) ++ (wX4 cA (ad 9) (s2 9) ++ (wX3 cA (ad 10) (s2 10) ++ (wX3 cA (ad 11) (s2 11))))))))))))) (perm_of (fun c hc => by unfold wX7 wX7b; simp only [hc]; omega)) hP
        have hD := D_perm (b := wX6 cA (ad 2) (s2 2) ++ (tX7 ad (s2 6) ++ (wX5 cA (ad 0) (s2 0) ++ (wX2 cA (ad 1) (s2 1) ++ (wX6 cA (ad 3) (s2 3) ++ (wX6 cA (ad 4) (s2 4) ++ (wX6 cA (ad 5) (s2 5) ++ (wX1 cA (ad 7) (s2 7) ++ (wX0 cA (ad 8) (ad 2 0) (s2 8) ++ (wX4 cA (ad 9) (s2 9) ++ (wX3 cA (ad 10) (s2 10) ++ (wX3 cA (ad 11) (s2 11))))))))))))) (perm_of (fun c hc => by unfold wX7 wX7b; simp only [hc]; omega)) hD
        refine va_putN (D := D) (ci := 6) (v := .int (((s2 2).1 11) + x1)) (ty := .int) (C := RX6) (T := TX6) (N := 12) hx hb hts hinX6 tyX6 tyX6_ok nmX6 hown hK.1 hP hD hS 0 rfl rfl 11 (by decide) lkf177 (fun _ h9 => h9) rfl (by decide +kernel) rfl rfl (Nat.le_of_ble_eq_true rfl) dX7_days_51 (fun H locs hP hD hS => ?_)
        have hP : va_P D vwCl (wX6 cA (ad 2) (sF (s2 2) 11 (((s2 2).1 11) + x1)) ++ (tX7 ad (s2 6) ++ (wX5 cA (ad 0) (s2 0) ++ (wX2 cA (ad 1) (s2 1) ++ (wX6 cA (ad 3) (s2 3) ++ (wX6 cA (ad 4) (s2 4) ++ (wX6 cA (ad 5) (s2 5) ++ (wX1 cA (ad 7) (s2 7) ++ (wX0 cA (ad 8) (ad 2 0) (s2 8) ++ (wX4 cA (ad 9) (s2 9) ++ (wX3 cA (ad 10) (s2 10) ++ (wX3 cA (ad 11) (s2 11))))))))))))) H := hP
        have hD : va_D A (wX6 cA (ad 2) (sF (s2 2) 11 (((s2 2).1 11) + x1)) ++ (tX7 ad (s2 6) ++ (wX5 cA (ad 0) (s2 0) ++ (wX2 cA (ad 1) (s2 1) ++ (wX6 cA (ad 3) (s2 3) ++ (wX6 cA (ad 4) (s2 4) ++ (wX6 cA (ad 5) (s2 5) ++ (wX1 cA (ad 7) (s2 7) ++ (wX0 cA (ad 8) (ad 2 0) (s2 8) ++ (wX4 cA (ad 9) (s2 9) ++ (wX3 cA (ad 10) (s2 10) ++ (wX3 cA (ad 11) (s2 11))))))))))))) := hD
        have hP := P_perm (b := wX7 cA ad (sX s2 2 (sF (s2 2) 11 (((s2 2).1 11) + x1)))) (perm_of (fun c hc => by rw [show wX7 cA ad (sX s2 2 (sF (s2 2) 11 (((s2 2).1 11) + x1))) = wX7b cA ad (s2 0) (s2 1) (sF (s2 2) 11 (((s2 2).1 11) + x1)) (s2 3) (s2 4) (s2 5) (s2 6) (s2 7) (s2 8) (s2 9) (s2 10) (s2 11) from rfl]; unfold wX7b; simp only [hc]; omega)) hP
        have hD := D_perm (b := wX7 cA ad (sX s2 2 (sF (s2 2) 11 (((s2 2).1 11) + x1)))) (perm_of (fun c hc => by rw [show wX7 cA ad (sX s2 2 (sF (s2 2) 11 (((s2 2).1 11) + x1))) = wX7b cA ad (s2 0) (s2 1) (sF (s2 2) 11 (((s2 2).1 11) + x1)) (s2 3) (s2 4) (s2 5) (s2 6) (s2 7) (s2 8) (s2 9) (s2 10) (s2 11) from rfl]; unfold wX7b; simp only [hc]; omega)) hD
        obtain ⟨s3, es3⟩ : ∃ z, z = sX s2 2 (sF (s2 2) 11 (((s2 2).1 11) + x1)) := ⟨_, rfl⟩
        rw [← es3] at hP hD
        have h := nm_ap es3 h
        refine lv_aload_n hx hb dX7_days_54 rfl (lv_at hl 0 rfl) ?_
        refine va_get (D := D) (ci := 7) (v := .ref (ad 2 0)) (C := RX7) (T := TX7) (N := 12) hx hb hts hinX7 hown hK.1 hP 0 rfl rfl 2 (by decide) lkf26 (fun _ h9 => h9) rfl dX7_days_55 ?_
        refine va_getN (D := D) (ci := 6) (v := .int ((s3 2).1 11)) (C := RX6) (T := TX6) (N := 12) hx hb hts hinX6 hown hK.1 (P_left (wc := wX6 cA (ad 2) (s3 2)) (R := (tX7 ad (s3 6) ++ (wX5 cA (ad 0) (s3 0) ++ (wX2 cA (ad 1) (s3 1) ++ (wX6 cA (ad 3) (s3 3) ++ (wX6 cA (ad 4) (s3 4) ++ (wX6 cA (ad 5) (s3 5) ++ (wX1 cA (ad 7) (s3 7) ++ (wX0 cA (ad 8) (ad 2 0) (s3 8) ++ (wX4 cA (ad 9) (s3 9) ++ (wX3 cA (ad 10) (s3 10) ++ (wX3 cA (ad 11) (s3 11))))))))))))) (perm_of (fun c hc => by unfold wX7 wX7b; simp only [hc]; omega)) hP) 0 rfl rfl 11 (by decide) lkf177 (fun _ h9 => h9) rfl dX7_days_58 ?_
        cases h
        exact hend _ _ _ _ hP hD hS dX7_days_61
      · have h := if_f hc h
        refine lv_bipush (v := (-2 : Int32)) hx hb dX7_days_27 (by decide) ?_
        cases h
        exact hend _ _ _ _ hP hD hS dX7_days_29
    · have h := if_f hc h
      refine lv_iconst (v := (-1 : Int32)) hx hb dX7_days_11 (by decide) ?_
      cases h
      exact hend _ _ _ _ hP hD hS dX7_days_12
abbrev rmX7_takeBack : Room := ({ frames := 1, cells := 0, slots := 0, locals := 21 } : Room)
set_option maxHeartbeats 4000000 in
set_option maxRecDepth 100000 in
theorem c_X7_takeBack (l : Launch) (D : va_G) (cA : ClassId) (ad : (Nat → Nat → Nat)) (X : (Nat → Ob)) (r : Int32) (X_ : (Nat → Ob)) (h : f_X7_takeBack X = some (r, X_)) : ConW l yX7_takeBack wsX7_takeBack rmX7_takeBack D cA [.ref (ad 6 0)] (wX7 cA ad X) r (wX7 cA ad X_) := by
  refine ConW.enter (cc := cX7_takeBack) (maxL := 1) (by decide) rfl (Nat.le_of_ble_eq_true rfl) ?_
  intro p e s m args below meth c Q A hx hb hml hown hts hK hP hD hA hend ls hl
  have hS : va_S A s.heap s.heap [] := va_S.rf
  have hl : lv_has ls 1 [(0, .ref (ad 6 0))] := hl
  unfold f_X7_takeBack at h
  have lkf46 := hts (.fieldLink RX7 46 "TiedToTown" "past" "LTiedToTown$Past;") (List.mem_of_getElem? (i := 1) rfl)
  have hinX7 : ∀ w ∈ wsX70, w ∈ wsX7_takeBack := fun w h => List.mem_cons_of_mem _ (List.mem_append_left _ (List.mem_append_left _ (List.mem_append_left _ (List.mem_append_right _ h))))
  have lkf26 := hts (.fieldLink RX7 26 "TiedToTown" "town" "LTiedToTown$Town;") (List.mem_of_getElem? (i := 2) rfl)
  have lkf62 := hts (.fieldLink RX7 62 "TiedToTown" "row" "LTiedToTown$Row;") (List.mem_of_getElem? (i := 3) rfl)
  refine lv_aload_n hx hb dX7_takeBack_0 rfl (lv_at hl 0 rfl) ?_
  refine va_get (D := D) (ci := 7) (v := .ref (ad 7 0)) (C := RX7) (T := TX7) (N := 12) hx hb hts hinX7 hown hK.1 hP 0 rfl rfl 7 (by decide) lkf46 (fun _ h9 => h9) rfl dX7_takeBack_1 ?_
  obtain ⟨z1, hz1, h⟩ := bd_some h
  refine pR_V (As := []) (rest := []) (wr := (tX7 ad (X 6) ++ (wX5 cA (ad 0) (X 0) ++ (wX2 cA (ad 1) (X 1) ++ (wX6 cA (ad 2) (X 2) ++ (wX6 cA (ad 3) (X 3) ++ (wX6 cA (ad 4) (X 4) ++ (wX6 cA (ad 5) (X 5) ++ (wX0 cA (ad 8) (ad 2 0) (X 8) ++ (wX4 cA (ad 9) (X 9) ++ (wX3 cA (ad 10) (X 10) ++ (wX3 cA (ad 11) (X 11))))))))))))) ⟨hx, hb, hml, hown, hts⟩ (c_X1_size l D cA (ad 7) (X 7)  z1 hz1) (cwV 0 hts gX7_takeBack_X1_size rfl rfl rfl hd_X1_size ⟨(Nat.le_of_ble_eq_true rfl), (Nat.le_of_ble_eq_true rfl)⟩) (recvK hK (P_left (wc := wX1 cA (ad 7) (X 7)) (R := (tX7 ad (X 6) ++ (wX5 cA (ad 0) (X 0) ++ (wX2 cA (ad 1) (X 1) ++ (wX6 cA (ad 2) (X 2) ++ (wX6 cA (ad 3) (X 3) ++ (wX6 cA (ad 4) (X 4) ++ (wX6 cA (ad 5) (X 5) ++ (wX0 cA (ad 8) (ad 2 0) (X 8) ++ (wX4 cA (ad 9) (X 9) ++ (wX3 cA (ad 10) (X 10) ++ (wX3 cA (ad 11) (X 11))))))))))))) (perm_of (fun c hc => by unfold wX7 wX7b; simp only [hc]; omega)) hP) 0 1 rfl rfl) hK hP (perm_of (fun c hc => by unfold wX7 wX7b; simp only [hc]; omega)) rfl hl.1 rfl (Nat.le_of_ble_eq_true rfl) dX7_takeBack_4 ⟨(Nat.le_of_ble_eq_true rfl), (Nat.le_of_ble_eq_true rfl)⟩ ?_
  refine lv_if_ne (tgt := 13) hx hb dX7_takeBack_7 (by decide) (fun hc => ?_) (fun hc => ?_)
  · have h := if_f hc h
    refine lv_aload_n hx hb dX7_takeBack_13 rfl (lv_at hl 0 rfl) ?_
    refine va_get (D := D) (ci := 7) (v := .ref (ad 7 0)) (C := RX7) (T := TX7) (N := 12) hx hb hts hinX7 hown hK.1 hP 0 rfl rfl 7 (by decide) lkf46 (fun _ h9 => h9) rfl dX7_takeBack_14 ?_
    refine lv_aload_n hx hb dX7_takeBack_17 rfl (lv_at hl 0 rfl) ?_
    refine va_get (D := D) (ci := 7) (v := .ref (ad 2 0)) (C := RX7) (T := TX7) (N := 12) hx hb hts hinX7 hown hK.1 hP 0 rfl rfl 2 (by decide) lkf26 (fun _ h9 => h9) rfl dX7_takeBack_18 ?_
    obtain ⟨z2, hz2, h⟩ := bd_some h
    refine pV_V (As := [.ref (ad 2 0)]) (rest := []) (wr := (tX7 ad (X 6) ++ (wX5 cA (ad 0) (X 0) ++ (wX2 cA (ad 1) (X 1) ++ (wX6 cA (ad 3) (X 3) ++ (wX6 cA (ad 4) (X 4) ++ (wX6 cA (ad 5) (X 5) ++ (wX0 cA (ad 8) (ad 2 0) (X 8) ++ (wX4 cA (ad 9) (X 9) ++ (wX3 cA (ad 10) (X 10) ++ (wX3 cA (ad 11) (X 11)))))))))))) (wn := (wX7 cA ad (sX (sX X 7 z2.1) 2 z2.2))) ⟨hx, hb, hml, hown, hts⟩ (c_X1_restore l D cA (ad 7) (X 7) (ad 2) (X 2)   z2.1 z2.2 hz2) (cwV 1 hts gX7_takeBack_X1_restore rfl rfl rfl hd_X1_restore ⟨(Nat.le_of_ble_eq_true rfl), (Nat.le_of_ble_eq_true rfl)⟩) (recvK hK (P_left (wc := wX1 cA (ad 7) (X 7)) (R := (tX7 ad (X 6) ++ (wX5 cA (ad 0) (X 0) ++ (wX2 cA (ad 1) (X 1) ++ (wX6 cA (ad 2) (X 2) ++ (wX6 cA (ad 3) (X 3) ++ (wX6 cA (ad 4) (X 4) ++ (wX6 cA (ad 5) (X 5) ++ (wX0 cA (ad 8) (ad 2 0) (X 8) ++ (wX4 cA (ad 9) (X 9) ++ (wX3 cA (ad 10) (X 10) ++ (wX3 cA (ad 11) (X 11))))))))))))) (perm_of (fun c hc => by unfold wX7 wX7b; simp only [hc]; omega)) hP) 0 1 rfl rfl) hK hP hD hS hA (perm_of (fun c hc => by unfold wX7 wX7b; simp only [hc]; omega)) (perm_of (fun c hc => by rw [show wX7 cA ad (sX (sX X 7 z2.1) 2 z2.2) = wX7b cA ad (X 0) (X 1) z2.2 (X 3) (X 4) (X 5) (X 6) z2.1 (X 8) (X 9) (X 10) (X 11) from rfl]; unfold wX7b; simp only [hc]; omega)) rfl hl.1 rfl (Nat.le_of_ble_eq_true rfl) dX7_takeBack_21 ⟨(Nat.le_of_ble_eq_true rfl), (Nat.le_of_ble_eq_true rfl)⟩ (fun H locs hP hD hS => ?_)
    obtain ⟨s3, es3⟩ : ∃ z, z = sX (sX X 7 z2.1) 2 z2.2 := ⟨_, rfl⟩
    rw [← es3] at hP hD
    have h := nm_ap es3 h
    refine lv_aload_n hx hb dX7_takeBack_24 rfl (lv_at hl 0 rfl) ?_
    refine va_get (D := D) (ci := 7) (v := .ref (ad 9 0)) (C := RX7) (T := TX7) (N := 12) hx hb hts hinX7 hown hK.1 hP 0 rfl rfl 9 (by decide) lkf62 (fun _ h9 => h9) rfl dX7_takeBack_25 ?_
    obtain ⟨z4, hz4, h⟩ := bd_some h
    refine pV_V (As := []) (rest := []) (wr := (tX7 ad (s3 6) ++ (wX5 cA (ad 0) (s3 0) ++ (wX2 cA (ad 1) (s3 1) ++ (wX6 cA (ad 2) (s3 2) ++ (wX6 cA (ad 3) (s3 3) ++ (wX6 cA (ad 4) (s3 4) ++ (wX6 cA (ad 5) (s3 5) ++ (wX1 cA (ad 7) (s3 7) ++ (wX0 cA (ad 8) (ad 2 0) (s3 8) ++ (wX3 cA (ad 10) (s3 10) ++ (wX3 cA (ad 11) (s3 11))))))))))))) (wn := (wX7 cA ad (sX s3 9 z4))) ⟨hx, hb, hml, hown, hts⟩ (c_X4_empty l D cA (ad 9) (s3 9)   z4 hz4) (cwV 0 hts gX7_takeBack_X4_empty rfl rfl rfl hd_X4_empty ⟨(Nat.le_of_ble_eq_true rfl), (Nat.le_of_ble_eq_true rfl)⟩) (recvK hK (P_left (wc := wX4 cA (ad 9) (s3 9)) (R := (tX7 ad (s3 6) ++ (wX5 cA (ad 0) (s3 0) ++ (wX2 cA (ad 1) (s3 1) ++ (wX6 cA (ad 2) (s3 2) ++ (wX6 cA (ad 3) (s3 3) ++ (wX6 cA (ad 4) (s3 4) ++ (wX6 cA (ad 5) (s3 5) ++ (wX1 cA (ad 7) (s3 7) ++ (wX0 cA (ad 8) (ad 2 0) (s3 8) ++ (wX3 cA (ad 10) (s3 10) ++ (wX3 cA (ad 11) (s3 11))))))))))))) (perm_of (fun c hc => by unfold wX7 wX7b; simp only [hc]; omega)) hP) 0 4 rfl rfl) hK hP hD hS hA (perm_of (fun c hc => by unfold wX7 wX7b; simp only [hc]; omega)) (perm_of (fun c hc => by rw [show wX7 cA ad (sX s3 9 z4) = wX7b cA ad (s3 0) (s3 1) (s3 2) (s3 3) (s3 4) (s3 5) (s3 6) (s3 7) (s3 8) z4 (s3 10) (s3 11) from rfl]; unfold wX7b; simp only [hc]; omega)) rfl hl.1 rfl (Nat.le_of_ble_eq_true rfl) dX7_takeBack_28 ⟨(Nat.le_of_ble_eq_true rfl), (Nat.le_of_ble_eq_true rfl)⟩ (fun H locs hP hD hS => ?_)
    obtain ⟨s5, es5⟩ : ∃ z, z = sX s3 9 z4 := ⟨_, rfl⟩
    rw [← es5] at hP hD
    have h := nm_ap es5 h
    refine lv_aload_n hx hb dX7_takeBack_31 rfl (lv_at hl 0 rfl) ?_
    refine va_get (D := D) (ci := 7) (v := .ref (ad 7 0)) (C := RX7) (T := TX7) (N := 12) hx hb hts hinX7 hown hK.1 hP 0 rfl rfl 7 (by decide) lkf46 (fun _ h9 => h9) rfl dX7_takeBack_32 ?_
    obtain ⟨z6, hz6, h⟩ := bd_some h
    refine pR_V (As := []) (rest := []) (wr := (tX7 ad (s5 6) ++ (wX5 cA (ad 0) (s5 0) ++ (wX2 cA (ad 1) (s5 1) ++ (wX6 cA (ad 2) (s5 2) ++ (wX6 cA (ad 3) (s5 3) ++ (wX6 cA (ad 4) (s5 4) ++ (wX6 cA (ad 5) (s5 5) ++ (wX0 cA (ad 8) (ad 2 0) (s5 8) ++ (wX4 cA (ad 9) (s5 9) ++ (wX3 cA (ad 10) (s5 10) ++ (wX3 cA (ad 11) (s5 11))))))))))))) ⟨hx, hb, hml, hown, hts⟩ (c_X1_size l D cA (ad 7) (s5 7)  z6 hz6) (cwV 0 hts gX7_takeBack_X1_size rfl rfl rfl hd_X1_size ⟨(Nat.le_of_ble_eq_true rfl), (Nat.le_of_ble_eq_true rfl)⟩) (recvK hK (P_left (wc := wX1 cA (ad 7) (s5 7)) (R := (tX7 ad (s5 6) ++ (wX5 cA (ad 0) (s5 0) ++ (wX2 cA (ad 1) (s5 1) ++ (wX6 cA (ad 2) (s5 2) ++ (wX6 cA (ad 3) (s5 3) ++ (wX6 cA (ad 4) (s5 4) ++ (wX6 cA (ad 5) (s5 5) ++ (wX0 cA (ad 8) (ad 2 0) (s5 8) ++ (wX4 cA (ad 9) (s5 9) ++ (wX3 cA (ad 10) (s5 10) ++ (wX3 cA (ad 11) (s5 11))))))))))))) (perm_of (fun c hc => by unfold wX7 wX7b; simp only [hc]; omega)) hP) 0 1 rfl rfl) hK hP (perm_of (fun c hc => by unfold wX7 wX7b; simp only [hc]; omega)) rfl hl.1 rfl (Nat.le_of_ble_eq_true rfl) dX7_takeBack_35 ⟨(Nat.le_of_ble_eq_true rfl), (Nat.le_of_ble_eq_true rfl)⟩ ?_
    cases h
    exact hend _ _ _ _ hP hD hS dX7_takeBack_38
  · have h := if_t hc h
    refine lv_bipush (v := (-2 : Int32)) hx hb dX7_takeBack_10 (by decide) ?_
    cases h
    exact hend _ _ _ _ hP hD hS dX7_takeBack_12
abbrev rmX7_loosen : Room := ({ frames := 5, cells := 0, slots := 0, locals := 116 } : Room)
set_option maxHeartbeats 4000000 in
set_option maxRecDepth 100000 in
theorem c_X7_loosen (l : Launch) (D : va_G) (cA : ClassId) (ad : (Nat → Nat → Nat)) (X : (Nat → Ob)) (x1 : Int32) (r : Int32) (h : f_X7_loosen X x1 = some r) : ConR l yX7_loosen wsX7_loosen rmX7_loosen D cA [.ref (ad 6 0), .int x1] (wX7 cA ad X) r := by
  refine ConR.enter (cc := cX7_loosen) (maxL := 2) (by decide) rfl (Nat.le_of_ble_eq_true rfl) ?_
  intro p e s m args below meth c Q hx hb hml hown hts hK hP  hend ls hl
  have hl : lv_has ls 2 [(0, .ref (ad 6 0)), (1, .int x1)] := hl
  unfold f_X7_loosen at h
  have lkf26 := hts (.fieldLink RX7 26 "TiedToTown" "town" "LTiedToTown$Town;") (List.mem_of_getElem? (i := 1) rfl)
  have hinX7 : ∀ w ∈ wsX70, w ∈ wsX7_loosen := fun w h => List.mem_cons_of_mem _ (List.mem_append_left _ (List.mem_append_left _ (List.mem_append_right _ h)))
  have lkf127 := va_Nw.use (w := Cond.fieldLinkNest RX7 127 "TiedToTown$Town" "tied" "I" "TiedToTown") rfl (A := args) (hK.2 _ (List.mem_of_getElem? (i := 20) rfl))
  have hinX6 : ∀ w ∈ wsX60, w ∈ wsX7_loosen := fun w h => List.mem_cons_of_mem _ (List.mem_append_left _ (List.mem_append_right _ h))
  have lkf55 := hts (.fieldLink RX7 55 "TiedToTown" "outlook" "LTiedToTown$Outlook;") (List.mem_of_getElem? (i := 2) rfl)
  refine lv_aload_n hx hb dX7_loosen_0 rfl (lv_at hl 0 rfl) ?_
  refine va_get (D := D) (ci := 7) (v := .ref (ad 2 0)) (C := RX7) (T := TX7) (N := 12) hx hb hts hinX7 hown hK.1 hP 0 rfl rfl 2 (by decide) lkf26 (fun _ h9 => h9) rfl dX7_loosen_1 ?_
  refine lv_iload_n hx hb dX7_loosen_4 rfl (lv_at hl 1 rfl) ?_
  obtain ⟨z1, hz1, h⟩ := bd_some h
  refine pR_V (As := [.int x1]) (rest := []) (wr := (tX7 ad (X 6) ++ (wX5 cA (ad 0) (X 0) ++ (wX2 cA (ad 1) (X 1) ++ (wX6 cA (ad 3) (X 3) ++ (wX6 cA (ad 4) (X 4) ++ (wX6 cA (ad 5) (X 5) ++ (wX1 cA (ad 7) (X 7) ++ (wX0 cA (ad 8) (ad 2 0) (X 8) ++ (wX4 cA (ad 9) (X 9) ++ (wX3 cA (ad 10) (X 10) ++ (wX3 cA (ad 11) (X 11))))))))))))) ⟨hx, hb, hml, hown, hts⟩ (c_X6_isKnot l D cA (ad 2) (X 2) x1 z1 hz1) (cwV 1 hts gX7_loosen_X6_isKnot rfl rfl rfl hd_X6_isKnot ⟨(Nat.le_of_ble_eq_true rfl), (Nat.le_of_ble_eq_true rfl)⟩) (recvK hK (P_left (wc := wX6 cA (ad 2) (X 2)) (R := (tX7 ad (X 6) ++ (wX5 cA (ad 0) (X 0) ++ (wX2 cA (ad 1) (X 1) ++ (wX6 cA (ad 3) (X 3) ++ (wX6 cA (ad 4) (X 4) ++ (wX6 cA (ad 5) (X 5) ++ (wX1 cA (ad 7) (X 7) ++ (wX0 cA (ad 8) (ad 2 0) (X 8) ++ (wX4 cA (ad 9) (X 9) ++ (wX3 cA (ad 10) (X 10) ++ (wX3 cA (ad 11) (X 11))))))))))))) (perm_of (fun c hc => by unfold wX7 wX7b; simp only [hc]; omega)) hP) 0 6 rfl rfl) hK hP (perm_of (fun c hc => by unfold wX7 wX7b; simp only [hc]; omega)) rfl hl.1 rfl (Nat.le_of_ble_eq_true rfl) dX7_loosen_5 ⟨(Nat.le_of_ble_eq_true rfl), (Nat.le_of_ble_eq_true rfl)⟩ ?_
  refine lv_if_ne (tgt := 13) hx hb dX7_loosen_8 (by decide) (fun hc => ?_) (fun hc => ?_)
  · have h := if_f hc h
    refine lv_aload_n hx hb dX7_loosen_13 rfl (lv_at hl 0 rfl) ?_
    refine va_get (D := D) (ci := 7) (v := .ref (ad 2 0)) (C := RX7) (T := TX7) (N := 12) hx hb hts hinX7 hown hK.1 hP 0 rfl rfl 2 (by decide) lkf26 (fun _ h9 => h9) rfl dX7_loosen_14 ?_
    refine va_getN (D := D) (ci := 6) (v := .int ((X 2).1 10)) (C := RX6) (T := TX6) (N := 12) hx hb hts hinX6 hown hK.1 (P_left (wc := wX6 cA (ad 2) (X 2)) (R := (tX7 ad (X 6) ++ (wX5 cA (ad 0) (X 0) ++ (wX2 cA (ad 1) (X 1) ++ (wX6 cA (ad 3) (X 3) ++ (wX6 cA (ad 4) (X 4) ++ (wX6 cA (ad 5) (X 5) ++ (wX1 cA (ad 7) (X 7) ++ (wX0 cA (ad 8) (ad 2 0) (X 8) ++ (wX4 cA (ad 9) (X 9) ++ (wX3 cA (ad 10) (X 10) ++ (wX3 cA (ad 11) (X 11))))))))))))) (perm_of (fun c hc => by unfold wX7 wX7b; simp only [hc]; omega)) hP) 0 rfl rfl 10 (by decide) lkf127 (fun _ h9 => h9) rfl dX7_loosen_17 ?_
    refine lv_iload_n hx hb dX7_loosen_20 rfl (lv_at hl 1 rfl) ?_
    obtain ⟨z2, hz2, h⟩ := bd_some h
    refine cR_S (As := [.int ((X 2).1 10), .int x1]) (rest := []) ⟨hx, hb, hml, hown, hts⟩ (c_X7_has l D cA  ((X 2).1 10) x1 z2 hz2) (va_cwS 2 hts gX7_loosen_X7_has rfl rfl rfl hd_X7_has.2 ⟨(Nat.le_of_ble_eq_true rfl), (Nat.le_of_ble_eq_true rfl)⟩) hK hP [] rfl rfl hl.1 rfl (Nat.le_of_ble_eq_true rfl) dX7_loosen_21 ⟨(Nat.le_of_ble_eq_true rfl), (Nat.le_of_ble_eq_true rfl)⟩ ?_
    refine lv_if_ne (tgt := 30) hx hb dX7_loosen_24 (by decide) (fun hc => ?_) (fun hc => ?_)
    · have h := if_f hc h
      refine lv_aload_n hx hb dX7_loosen_30 rfl (lv_at hl 0 rfl) ?_
      refine va_get (D := D) (ci := 7) (v := .ref (ad 8 0)) (C := RX7) (T := TX7) (N := 12) hx hb hts hinX7 hown hK.1 hP 0 rfl rfl 8 (by decide) lkf55 (fun _ h9 => h9) rfl dX7_loosen_31 ?_
      obtain ⟨z3, hz3, h⟩ := bd_some h
      refine pR_V (As := []) (rest := []) (wr := (tX7 ad (X 6) ++ (wX5 cA (ad 0) (X 0) ++ (wX2 cA (ad 1) (X 1) ++ (wX6 cA (ad 3) (X 3) ++ (wX6 cA (ad 4) (X 4) ++ (wX6 cA (ad 5) (X 5) ++ (wX1 cA (ad 7) (X 7) ++ (wX4 cA (ad 9) (X 9) ++ (wX3 cA (ad 10) (X 10) ++ (wX3 cA (ad 11) (X 11)))))))))))) ⟨hx, hb, hml, hown, hts⟩ (c_X0_stuckToday l D cA (ad 8) (X 8) (ad 2) (X 2)  z3 hz3) (cwV 0 hts gX7_loosen_X0_stuckToday rfl rfl rfl hd_X0_stuckToday ⟨(Nat.le_of_ble_eq_true rfl), (Nat.le_of_ble_eq_true rfl)⟩) (recvK hK (P_left (wc := wX0 cA (ad 8) (ad 2 0) (X 8)) (R := (tX7 ad (X 6) ++ (wX5 cA (ad 0) (X 0) ++ (wX2 cA (ad 1) (X 1) ++ (wX6 cA (ad 2) (X 2) ++ (wX6 cA (ad 3) (X 3) ++ (wX6 cA (ad 4) (X 4) ++ (wX6 cA (ad 5) (X 5) ++ (wX1 cA (ad 7) (X 7) ++ (wX4 cA (ad 9) (X 9) ++ (wX3 cA (ad 10) (X 10) ++ (wX3 cA (ad 11) (X 11))))))))))))) (perm_of (fun c hc => by unfold wX7 wX7b; simp only [hc]; omega)) hP) 0 0 rfl rfl) hK hP (perm_of (fun c hc => by unfold wX7 wX7b; simp only [hc]; omega)) rfl hl.1 rfl (Nat.le_of_ble_eq_true rfl) dX7_loosen_34 ⟨(Nat.le_of_ble_eq_true rfl), (Nat.le_of_ble_eq_true rfl)⟩ ?_
      refine lv_iload_n hx hb dX7_loosen_37 rfl (lv_at hl 1 rfl) ?_
      obtain ⟨z4, hz4, h⟩ := bd_some h
      refine cR_S (As := [.int z3, .int x1]) (rest := []) ⟨hx, hb, hml, hown, hts⟩ (c_X7_has l D cA  z3 x1 z4 hz4) (va_cwS 2 hts gX7_loosen_X7_has rfl rfl rfl hd_X7_has.2 ⟨(Nat.le_of_ble_eq_true rfl), (Nat.le_of_ble_eq_true rfl)⟩) hK hP [] rfl rfl hl.1 rfl (Nat.le_of_ble_eq_true rfl) dX7_loosen_38 ⟨(Nat.le_of_ble_eq_true rfl), (Nat.le_of_ble_eq_true rfl)⟩ ?_
      refine lv_if_eq (tgt := 49) hx hb dX7_loosen_41 (by decide) (fun hc => ?_) (fun hc => ?_)
      · have h := if_t hc h
        refine lv_aload_n hx hb dX7_loosen_49 rfl (lv_at hl 0 rfl) ?_
        refine va_get (D := D) (ci := 7) (v := .ref (ad 8 0)) (C := RX7) (T := TX7) (N := 12) hx hb hts hinX7 hown hK.1 hP 0 rfl rfl 8 (by decide) lkf55 (fun _ h9 => h9) rfl dX7_loosen_50 ?_
        refine lv_iload_n hx hb dX7_loosen_53 rfl (lv_at hl 1 rfl) ?_
        obtain ⟨z5, hz5, h⟩ := bd_some h
        refine cR_S (As := [.int x1]) (rest := [.ref (ad 8 0)]) ⟨hx, hb, hml, hown, hts⟩ (c_X7_bit l D cA  x1 z5 hz5) (va_cwS 1 hts gX7_loosen_X7_bit rfl rfl rfl hd_X7_bit.2 ⟨(Nat.le_of_ble_eq_true rfl), (Nat.le_of_ble_eq_true rfl)⟩) hK hP [] rfl rfl hl.1 rfl (Nat.le_of_ble_eq_true rfl) dX7_loosen_54 ⟨(Nat.le_of_ble_eq_true rfl), (Nat.le_of_ble_eq_true rfl)⟩ ?_
        obtain ⟨z6, hz6, h⟩ := bd_some h
        refine pR_V (As := [.int z5]) (rest := []) (wr := (tX7 ad (X 6) ++ (wX5 cA (ad 0) (X 0) ++ (wX2 cA (ad 1) (X 1) ++ (wX6 cA (ad 3) (X 3) ++ (wX6 cA (ad 4) (X 4) ++ (wX6 cA (ad 5) (X 5) ++ (wX1 cA (ad 7) (X 7) ++ (wX4 cA (ad 9) (X 9) ++ (wX3 cA (ad 10) (X 10) ++ (wX3 cA (ad 11) (X 11)))))))))))) ⟨hx, hb, hml, hown, hts⟩ (c_X0_withAhead l D cA (ad 8) (X 8) (ad 2) (X 2) z5 z6 hz6) (cwV 1 hts gX7_loosen_X0_withAhead rfl rfl rfl hd_X0_withAhead ⟨(Nat.le_of_ble_eq_true rfl), (Nat.le_of_ble_eq_true rfl)⟩) (recvK hK (P_left (wc := wX0 cA (ad 8) (ad 2 0) (X 8)) (R := (tX7 ad (X 6) ++ (wX5 cA (ad 0) (X 0) ++ (wX2 cA (ad 1) (X 1) ++ (wX6 cA (ad 2) (X 2) ++ (wX6 cA (ad 3) (X 3) ++ (wX6 cA (ad 4) (X 4) ++ (wX6 cA (ad 5) (X 5) ++ (wX1 cA (ad 7) (X 7) ++ (wX4 cA (ad 9) (X 9) ++ (wX3 cA (ad 10) (X 10) ++ (wX3 cA (ad 11) (X 11))))))))))))) (perm_of (fun c hc => by unfold wX7 wX7b; simp only [hc]; omega)) hP) 0 0 rfl rfl) hK hP (perm_of (fun c hc => by unfold wX7 wX7b; simp only [hc]; omega)) rfl hl.1 rfl (Nat.le_of_ble_eq_true rfl) dX7_loosen_57 ⟨(Nat.le_of_ble_eq_true rfl), (Nat.le_of_ble_eq_true rfl)⟩ ?_
        refine lv_iload_n hx hb dX7_loosen_60 rfl (lv_at hl 1 rfl) ?_
        obtain ⟨z7, hz7, h⟩ := bd_some h
        refine cR_S (As := [.int x1]) (rest := [.int z6]) ⟨hx, hb, hml, hown, hts⟩ (c_X7_bit l D cA  x1 z7 hz7) (va_cwS 1 hts gX7_loosen_X7_bit rfl rfl rfl hd_X7_bit.2 ⟨(Nat.le_of_ble_eq_true rfl), (Nat.le_of_ble_eq_true rfl)⟩) hK hP [] rfl rfl hl.1 rfl (Nat.le_of_ble_eq_true rfl) dX7_loosen_61 ⟨(Nat.le_of_ble_eq_true rfl), (Nat.le_of_ble_eq_true rfl)⟩ ?_
        refine lv_iconst (v := (-1 : Int32)) hx hb dX7_loosen_64 (by decide) ?_
        refine lv_ixor hx hb dX7_loosen_65 ?_
        refine lv_iand hx hb dX7_loosen_66 ?_
        cases h
        exact hend _ _ dX7_loosen_67
      · have h := if_f hc h
        refine lv_bipush (v := (-4 : Int32)) hx hb dX7_loosen_44 (by decide) ?_
        refine lv_goto (tgt := 67) hx hb dX7_loosen_46 (by decide) ?_
        cases h
        exact hend _ _ dX7_loosen_67
    · have h := if_t hc h
      refine lv_bipush (v := (-2 : Int32)) hx hb dX7_loosen_27 (by decide) ?_
      cases h
      exact hend _ _ dX7_loosen_29
  · have h := if_t hc h
    refine lv_iconst (v := (-1 : Int32)) hx hb dX7_loosen_11 (by decide) ?_
    cases h
    exact hend _ _ dX7_loosen_12
abbrev rmX7_pay : Room := ({ frames := 6, cells := 0, slots := 0, locals := 140 } : Room)
set_option maxHeartbeats 4000000 in
set_option maxRecDepth 100000 in
theorem c_X7_pay (l : Launch) (D : va_G) (cA : ClassId) (ad : (Nat → Nat → Nat)) (X : (Nat → Ob)) (x1 : Int32) (r : Int32) (h : f_X7_pay X x1 = some r) : ConR l yX7_pay wsX7_pay rmX7_pay D cA [.ref (ad 6 0), .int x1] (wX7 cA ad X) r := by
  refine ConR.enter (cc := cX7_pay) (maxL := 4) (by decide) rfl (Nat.le_of_ble_eq_true rfl) ?_
  intro p e s m args below meth c Q hx hb hml hown hts hK hP  hend ls hl
  have hl : lv_has ls 4 [(0, .ref (ad 6 0)), (1, .int x1)] := hl
  unfold f_X7_pay at h
  have lkf26 := hts (.fieldLink RX7 26 "TiedToTown" "town" "LTiedToTown$Town;") (List.mem_of_getElem? (i := 1) rfl)
  have hinX7 : ∀ w ∈ wsX70, w ∈ wsX7_pay := fun w h => List.mem_cons_of_mem _ (List.mem_append_left _ (List.mem_append_left _ (List.mem_append_right _ h)))
  have lkf55 := hts (.fieldLink RX7 55 "TiedToTown" "outlook" "LTiedToTown$Outlook;") (List.mem_of_getElem? (i := 2) rfl)
  refine lv_iload_n hx hb dX7_pay_0 rfl (lv_at hl 1 rfl) ?_
  refine lv_iconst (v := (-1 : Int32)) hx hb dX7_pay_1 (by decide) ?_
  refine lv_icmp_ge (tgt := 7) hx hb dX7_pay_2 (by decide) (fun hc => ?_) (fun hc => ?_)
  · have h := if_t hc h
    refine lv_aload_n hx hb dX7_pay_7 rfl (lv_at hl 0 rfl) ?_
    refine va_get (D := D) (ci := 7) (v := .ref (ad 2 0)) (C := RX7) (T := TX7) (N := 12) hx hb hts hinX7 hown hK.1 hP 0 rfl rfl 2 (by decide) lkf26 (fun _ h9 => h9) rfl dX7_pay_8 ?_
    obtain ⟨z1, hz1, h⟩ := bd_some h
    refine pR_V (As := []) (rest := []) (wr := (tX7 ad (X 6) ++ (wX5 cA (ad 0) (X 0) ++ (wX2 cA (ad 1) (X 1) ++ (wX6 cA (ad 3) (X 3) ++ (wX6 cA (ad 4) (X 4) ++ (wX6 cA (ad 5) (X 5) ++ (wX1 cA (ad 7) (X 7) ++ (wX0 cA (ad 8) (ad 2 0) (X 8) ++ (wX4 cA (ad 9) (X 9) ++ (wX3 cA (ad 10) (X 10) ++ (wX3 cA (ad 11) (X 11))))))))))))) ⟨hx, hb, hml, hown, hts⟩ (c_X6_dueToday l D cA (ad 2) (X 2)  z1 hz1) (cwV 0 hts gX7_pay_X6_dueToday rfl rfl rfl hd_X6_dueToday ⟨(Nat.le_of_ble_eq_true rfl), (Nat.le_of_ble_eq_true rfl)⟩) (recvK hK (P_left (wc := wX6 cA (ad 2) (X 2)) (R := (tX7 ad (X 6) ++ (wX5 cA (ad 0) (X 0) ++ (wX2 cA (ad 1) (X 1) ++ (wX6 cA (ad 3) (X 3) ++ (wX6 cA (ad 4) (X 4) ++ (wX6 cA (ad 5) (X 5) ++ (wX1 cA (ad 7) (X 7) ++ (wX0 cA (ad 8) (ad 2 0) (X 8) ++ (wX4 cA (ad 9) (X 9) ++ (wX3 cA (ad 10) (X 10) ++ (wX3 cA (ad 11) (X 11))))))))))))) (perm_of (fun c hc => by unfold wX7 wX7b; simp only [hc]; omega)) hP) 0 6 rfl rfl) hK hP (perm_of (fun c hc => by unfold wX7 wX7b; simp only [hc]; omega)) rfl hl.1 rfl (Nat.le_of_ble_eq_true rfl) dX7_pay_11 ⟨(Nat.le_of_ble_eq_true rfl), (Nat.le_of_ble_eq_true rfl)⟩ ?_
    refine lv_istore_n (lv' := [(2, .int z1), (0, .ref (ad 6 0)), (1, .int x1)]) hx hb dX7_pay_14 rfl hl (by decide) rfl (fun ls hl => ?_)
    refine lv_iload_n hx hb dX7_pay_15 rfl (lv_at hl 0 rfl) ?_
    refine lv_aload_n hx hb dX7_pay_16 rfl (lv_at hl 1 rfl) ?_
    refine va_get (D := D) (ci := 7) (v := .ref (ad 8 0)) (C := RX7) (T := TX7) (N := 12) hx hb hts hinX7 hown hK.1 hP 0 rfl rfl 8 (by decide) lkf55 (fun _ h9 => h9) rfl dX7_pay_17 ?_
    obtain ⟨z2, hz2, h⟩ := bd_some h
    refine pR_V (As := []) (rest := [.int z1]) (wr := (tX7 ad (X 6) ++ (wX5 cA (ad 0) (X 0) ++ (wX2 cA (ad 1) (X 1) ++ (wX6 cA (ad 3) (X 3) ++ (wX6 cA (ad 4) (X 4) ++ (wX6 cA (ad 5) (X 5) ++ (wX1 cA (ad 7) (X 7) ++ (wX4 cA (ad 9) (X 9) ++ (wX3 cA (ad 10) (X 10) ++ (wX3 cA (ad 11) (X 11)))))))))))) ⟨hx, hb, hml, hown, hts⟩ (c_X0_stuckToday l D cA (ad 8) (X 8) (ad 2) (X 2)  z2 hz2) (cwV 0 hts gX7_pay_X0_stuckToday rfl rfl rfl hd_X0_stuckToday ⟨(Nat.le_of_ble_eq_true rfl), (Nat.le_of_ble_eq_true rfl)⟩) (recvK hK (P_left (wc := wX0 cA (ad 8) (ad 2 0) (X 8)) (R := (tX7 ad (X 6) ++ (wX5 cA (ad 0) (X 0) ++ (wX2 cA (ad 1) (X 1) ++ (wX6 cA (ad 2) (X 2) ++ (wX6 cA (ad 3) (X 3) ++ (wX6 cA (ad 4) (X 4) ++ (wX6 cA (ad 5) (X 5) ++ (wX1 cA (ad 7) (X 7) ++ (wX4 cA (ad 9) (X 9) ++ (wX3 cA (ad 10) (X 10) ++ (wX3 cA (ad 11) (X 11))))))))))))) (perm_of (fun c hc => by unfold wX7 wX7b; simp only [hc]; omega)) hP) 0 0 rfl rfl) hK hP (perm_of (fun c hc => by unfold wX7 wX7b; simp only [hc]; omega)) rfl hl.1 rfl (Nat.le_of_ble_eq_true rfl) dX7_pay_20 ⟨(Nat.le_of_ble_eq_true rfl), (Nat.le_of_ble_eq_true rfl)⟩ ?_
    refine lv_iand hx hb dX7_pay_23 ?_
    refine lv_if_eq (tgt := 30) hx hb dX7_pay_24 (by decide) (fun hc => ?_) (fun hc => ?_)
    · have h := if_t hc h
      refine lv_aload_n hx hb dX7_pay_30 rfl (lv_at hl 1 rfl) ?_
      refine va_get (D := D) (ci := 7) (v := .ref (ad 8 0)) (C := RX7) (T := TX7) (N := 12) hx hb hts hinX7 hown hK.1 hP 0 rfl rfl 8 (by decide) lkf55 (fun _ h9 => h9) rfl dX7_pay_31 ?_
      refine lv_iload_n hx hb dX7_pay_34 rfl (lv_at hl 0 rfl) ?_
      obtain ⟨z3, hz3, h⟩ := bd_some h
      refine pR_V (As := [.int z1]) (rest := []) (wr := (tX7 ad (X 6) ++ (wX5 cA (ad 0) (X 0) ++ (wX2 cA (ad 1) (X 1) ++ (wX6 cA (ad 3) (X 3) ++ (wX6 cA (ad 4) (X 4) ++ (wX6 cA (ad 5) (X 5) ++ (wX1 cA (ad 7) (X 7) ++ (wX4 cA (ad 9) (X 9) ++ (wX3 cA (ad 10) (X 10) ++ (wX3 cA (ad 11) (X 11)))))))))))) ⟨hx, hb, hml, hown, hts⟩ (c_X0_withAhead l D cA (ad 8) (X 8) (ad 2) (X 2) z1 z3 hz3) (cwV 1 hts gX7_pay_X0_withAhead rfl rfl rfl hd_X0_withAhead ⟨(Nat.le_of_ble_eq_true rfl), (Nat.le_of_ble_eq_true rfl)⟩) (recvK hK (P_left (wc := wX0 cA (ad 8) (ad 2 0) (X 8)) (R := (tX7 ad (X 6) ++ (wX5 cA (ad 0) (X 0) ++ (wX2 cA (ad 1) (X 1) ++ (wX6 cA (ad 2) (X 2) ++ (wX6 cA (ad 3) (X 3) ++ (wX6 cA (ad 4) (X 4) ++ (wX6 cA (ad 5) (X 5) ++ (wX1 cA (ad 7) (X 7) ++ (wX4 cA (ad 9) (X 9) ++ (wX3 cA (ad 10) (X 10) ++ (wX3 cA (ad 11) (X 11))))))))))))) (perm_of (fun c hc => by unfold wX7 wX7b; simp only [hc]; omega)) hP) 0 0 rfl rfl) hK hP (perm_of (fun c hc => by unfold wX7 wX7b; simp only [hc]; omega)) rfl hl.1 rfl (Nat.le_of_ble_eq_true rfl) dX7_pay_35 ⟨(Nat.le_of_ble_eq_true rfl), (Nat.le_of_ble_eq_true rfl)⟩ ?_
      refine lv_istore_n (lv' := [(3, .int z3), (2, .int z1), (0, .ref (ad 6 0)), (1, .int x1)]) hx hb dX7_pay_38 rfl hl (by decide) rfl (fun ls hl => ?_)
      refine lv_iload_n hx hb dX7_pay_39 rfl (lv_at hl 3 rfl) ?_
      refine lv_iconst (v := (-1 : Int32)) hx hb dX7_pay_40 (by decide) ?_
      refine lv_icmp_ne (tgt := 51) hx hb dX7_pay_41 (by decide) (fun hc => ?_) (fun hc => ?_)
      · have h := if_f hc h
        refine lv_aload_n hx hb dX7_pay_51 rfl (lv_at hl 2 rfl) ?_
        refine va_get (D := D) (ci := 7) (v := .ref (ad 8 0)) (C := RX7) (T := TX7) (N := 12) hx hb hts hinX7 hown hK.1 hP 0 rfl rfl 8 (by decide) lkf55 (fun _ h9 => h9) rfl dX7_pay_52 ?_
        refine lv_iload_n hx hb dX7_pay_55 rfl (lv_at hl 0 rfl) ?_
        refine lv_iload_n hx hb dX7_pay_56 rfl (lv_at hl 3 rfl) ?_
        obtain ⟨z4, hz4, h⟩ := bd_some h
        refine pR_V (As := [.int z3, .int x1]) (rest := []) (wr := (tX7 ad (X 6) ++ (wX5 cA (ad 0) (X 0) ++ (wX2 cA (ad 1) (X 1) ++ (wX6 cA (ad 3) (X 3) ++ (wX6 cA (ad 4) (X 4) ++ (wX6 cA (ad 5) (X 5) ++ (wX1 cA (ad 7) (X 7) ++ (wX4 cA (ad 9) (X 9) ++ (wX3 cA (ad 10) (X 10) ++ (wX3 cA (ad 11) (X 11)))))))))))) ⟨hx, hb, hml, hown, hts⟩ (c_X0_inTurn l D cA (ad 8) (X 8) (ad 2) (X 2) z3 x1 z4 hz4) (cwV 2 hts gX7_pay_X0_inTurn rfl rfl rfl hd_X0_inTurn ⟨(Nat.le_of_ble_eq_true rfl), (Nat.le_of_ble_eq_true rfl)⟩) (recvK hK (P_left (wc := wX0 cA (ad 8) (ad 2 0) (X 8)) (R := (tX7 ad (X 6) ++ (wX5 cA (ad 0) (X 0) ++ (wX2 cA (ad 1) (X 1) ++ (wX6 cA (ad 2) (X 2) ++ (wX6 cA (ad 3) (X 3) ++ (wX6 cA (ad 4) (X 4) ++ (wX6 cA (ad 5) (X 5) ++ (wX1 cA (ad 7) (X 7) ++ (wX4 cA (ad 9) (X 9) ++ (wX3 cA (ad 10) (X 10) ++ (wX3 cA (ad 11) (X 11))))))))))))) (perm_of (fun c hc => by unfold wX7 wX7b; simp only [hc]; omega)) hP) 0 0 rfl rfl) hK hP (perm_of (fun c hc => by unfold wX7 wX7b; simp only [hc]; omega)) rfl hl.1 rfl (Nat.le_of_ble_eq_true rfl) dX7_pay_57 ⟨(Nat.le_of_ble_eq_true rfl), (Nat.le_of_ble_eq_true rfl)⟩ ?_
        cases h
        exact hend _ _ dX7_pay_60
      · have h := if_t hc h
        refine lv_iload_n hx hb dX7_pay_44 rfl (lv_at hl 0 rfl) ?_
        obtain ⟨z5, hz5, h⟩ := bd_some h
        refine cR_S (As := [.int z3]) (rest := []) ⟨hx, hb, hml, hown, hts⟩ (c_J6_bitCount_0f7a4 l D cA  z3 z5 hz5) (va_cwS 1 hts gX7_pay_J6_bitCount_0f7a4 rfl rfl rfl hd_J6_bitCount_0f7a4.2 ⟨(Nat.le_of_ble_eq_true rfl), (Nat.le_of_ble_eq_true rfl)⟩) hK hP [] rfl rfl hl.1 rfl (Nat.le_of_ble_eq_true rfl) dX7_pay_45 ⟨(Nat.le_of_ble_eq_true rfl), (Nat.le_of_ble_eq_true rfl)⟩ ?_
        refine lv_goto (tgt := 60) hx hb dX7_pay_48 (by decide) ?_
        cases h
        exact hend _ _ dX7_pay_60
    · have h := if_f hc h
      refine lv_bipush (v := (-4 : Int32)) hx hb dX7_pay_27 (by decide) ?_
      cases h
      exact hend _ _ dX7_pay_29
  · have h := if_f hc h
    refine lv_iconst (v := (-1 : Int32)) hx hb dX7_pay_5 (by decide) ?_
    cases h
    exact hend _ _ dX7_pay_6
abbrev rmX7_forEver : Room := ({ frames := 5, cells := 0, slots := 0, locals := 117 } : Room)
set_option maxHeartbeats 4000000 in
set_option maxRecDepth 100000 in
theorem c_X7_forEver (l : Launch) (D : va_G) (cA : ClassId) (ad : (Nat → Nat → Nat)) (X : (Nat → Ob)) (r : Int32) (h : f_X7_forEver X = some r) : ConR l yX7_forEver wsX7_forEver rmX7_forEver D cA [.ref (ad 6 0)] (wX7 cA ad X) r := by
  refine ConR.enter (cc := cX7_forEver) (maxL := 1) (by decide) rfl (Nat.le_of_ble_eq_true rfl) ?_
  intro p e s m args below meth c Q hx hb hml hown hts hK hP  hend ls hl
  have hl : lv_has ls 1 [(0, .ref (ad 6 0))] := hl
  unfold f_X7_forEver at h
  have lkf55 := hts (.fieldLink RX7 55 "TiedToTown" "outlook" "LTiedToTown$Outlook;") (List.mem_of_getElem? (i := 1) rfl)
  have hinX7 : ∀ w ∈ wsX70, w ∈ wsX7_forEver := fun w h => List.mem_cons_of_mem _ (List.mem_append_left _ (List.mem_append_left _ (List.mem_append_right _ h)))
  have lkf26 := hts (.fieldLink RX7 26 "TiedToTown" "town" "LTiedToTown$Town;") (List.mem_of_getElem? (i := 2) rfl)
  have lkf145 := va_Nw.use (w := Cond.fieldLinkNest RX7 145 "TiedToTown$Town" "alive" "I" "TiedToTown") rfl (A := args) (hK.2 _ (List.mem_of_getElem? (i := 13) rfl))
  have hinX6 : ∀ w ∈ wsX60, w ∈ wsX7_forEver := fun w h => List.mem_cons_of_mem _ (List.mem_append_left _ (List.mem_append_right _ h))
  refine lv_aload_n hx hb dX7_forEver_0 rfl (lv_at hl 0 rfl) ?_
  refine va_get (D := D) (ci := 7) (v := .ref (ad 8 0)) (C := RX7) (T := TX7) (N := 12) hx hb hts hinX7 hown hK.1 hP 0 rfl rfl 8 (by decide) lkf55 (fun _ h9 => h9) rfl dX7_forEver_1 ?_
  refine lv_aload_n hx hb dX7_forEver_4 rfl (lv_at hl 0 rfl) ?_
  refine va_get (D := D) (ci := 7) (v := .ref (ad 2 0)) (C := RX7) (T := TX7) (N := 12) hx hb hts hinX7 hown hK.1 hP 0 rfl rfl 2 (by decide) lkf26 (fun _ h9 => h9) rfl dX7_forEver_5 ?_
  refine va_getN (D := D) (ci := 6) (v := .int ((X 2).1 7)) (C := RX6) (T := TX6) (N := 12) hx hb hts hinX6 hown hK.1 (P_left (wc := wX6 cA (ad 2) (X 2)) (R := (tX7 ad (X 6) ++ (wX5 cA (ad 0) (X 0) ++ (wX2 cA (ad 1) (X 1) ++ (wX6 cA (ad 3) (X 3) ++ (wX6 cA (ad 4) (X 4) ++ (wX6 cA (ad 5) (X 5) ++ (wX1 cA (ad 7) (X 7) ++ (wX0 cA (ad 8) (ad 2 0) (X 8) ++ (wX4 cA (ad 9) (X 9) ++ (wX3 cA (ad 10) (X 10) ++ (wX3 cA (ad 11) (X 11))))))))))))) (perm_of (fun c hc => by unfold wX7 wX7b; simp only [hc]; omega)) hP) 0 rfl rfl 7 (by decide) lkf145 (fun _ h9 => h9) rfl dX7_forEver_8 ?_
  obtain ⟨z1, hz1, h⟩ := bd_some h
  refine pR_V (As := [.int ((X 2).1 7)]) (rest := []) (wr := (tX7 ad (X 6) ++ (wX5 cA (ad 0) (X 0) ++ (wX2 cA (ad 1) (X 1) ++ (wX6 cA (ad 3) (X 3) ++ (wX6 cA (ad 4) (X 4) ++ (wX6 cA (ad 5) (X 5) ++ (wX1 cA (ad 7) (X 7) ++ (wX4 cA (ad 9) (X 9) ++ (wX3 cA (ad 10) (X 10) ++ (wX3 cA (ad 11) (X 11)))))))))))) ⟨hx, hb, hml, hown, hts⟩ (c_X0_stuckForEver l D cA (ad 8) (X 8) (ad 2) (X 2) ((X 2).1 7) z1 hz1) (cwV 1 hts gX7_forEver_X0_stuckForEver rfl rfl rfl hd_X0_stuckForEver ⟨(Nat.le_of_ble_eq_true rfl), (Nat.le_of_ble_eq_true rfl)⟩) (recvK hK (P_left (wc := wX0 cA (ad 8) (ad 2 0) (X 8)) (R := (tX7 ad (X 6) ++ (wX5 cA (ad 0) (X 0) ++ (wX2 cA (ad 1) (X 1) ++ (wX6 cA (ad 2) (X 2) ++ (wX6 cA (ad 3) (X 3) ++ (wX6 cA (ad 4) (X 4) ++ (wX6 cA (ad 5) (X 5) ++ (wX1 cA (ad 7) (X 7) ++ (wX4 cA (ad 9) (X 9) ++ (wX3 cA (ad 10) (X 10) ++ (wX3 cA (ad 11) (X 11))))))))))))) (perm_of (fun c hc => by unfold wX7 wX7b; simp only [hc]; omega)) hP) 0 0 rfl rfl) hK hP (perm_of (fun c hc => by unfold wX7 wX7b; simp only [hc]; omega)) rfl hl.1 rfl (Nat.le_of_ble_eq_true rfl) dX7_forEver_11 ⟨(Nat.le_of_ble_eq_true rfl), (Nat.le_of_ble_eq_true rfl)⟩ ?_
  cases h
  exact hend _ _ dX7_forEver_14
abbrev rmX7_frees : Room := ({ frames := 5, cells := 0, slots := 0, locals := 117 } : Room)
set_option maxHeartbeats 4000000 in
set_option maxRecDepth 100000 in
theorem c_X7_frees (l : Launch) (D : va_G) (cA : ClassId) (ad : (Nat → Nat → Nat)) (X : (Nat → Ob)) (x1 : Int32) (r : Int32) (h : f_X7_frees X x1 = some r) : ConR l yX7_frees wsX7_frees rmX7_frees D cA [.ref (ad 6 0), .int x1] (wX7 cA ad X) r := by
  refine ConR.enter (cc := cX7_frees) (maxL := 4) (by decide) rfl (Nat.le_of_ble_eq_true rfl) ?_
  intro p e s m args below meth c Q hx hb hml hown hts hK hP  hend ls hl
  have hl : lv_has ls 4 [(0, .ref (ad 6 0)), (1, .int x1)] := hl
  unfold f_X7_frees at h
  have lkf26 := hts (.fieldLink RX7 26 "TiedToTown" "town" "LTiedToTown$Town;") (List.mem_of_getElem? (i := 1) rfl)
  have hinX7 : ∀ w ∈ wsX70, w ∈ wsX7_frees := fun w h => List.mem_cons_of_mem _ (List.mem_append_left _ (List.mem_append_left _ (List.mem_append_right _ h)))
  have lkf55 := hts (.fieldLink RX7 55 "TiedToTown" "outlook" "LTiedToTown$Outlook;") (List.mem_of_getElem? (i := 2) rfl)
  have lkf145 := va_Nw.use (w := Cond.fieldLinkNest RX7 145 "TiedToTown$Town" "alive" "I" "TiedToTown") rfl (A := args) (hK.2 _ (List.mem_of_getElem? (i := 13) rfl))
  have hinX6 : ∀ w ∈ wsX60, w ∈ wsX7_frees := fun w h => List.mem_cons_of_mem _ (List.mem_append_left _ (List.mem_append_right _ h))
  refine lv_aload_n hx hb dX7_frees_0 rfl (lv_at hl 0 rfl) ?_
  refine va_get (D := D) (ci := 7) (v := .ref (ad 2 0)) (C := RX7) (T := TX7) (N := 12) hx hb hts hinX7 hown hK.1 hP 0 rfl rfl 2 (by decide) lkf26 (fun _ h9 => h9) rfl dX7_frees_1 ?_
  refine lv_iload_n hx hb dX7_frees_4 rfl (lv_at hl 1 rfl) ?_
  obtain ⟨z1, hz1, h⟩ := bd_some h
  refine pR_V (As := [.int x1]) (rest := []) (wr := (tX7 ad (X 6) ++ (wX5 cA (ad 0) (X 0) ++ (wX2 cA (ad 1) (X 1) ++ (wX6 cA (ad 3) (X 3) ++ (wX6 cA (ad 4) (X 4) ++ (wX6 cA (ad 5) (X 5) ++ (wX1 cA (ad 7) (X 7) ++ (wX0 cA (ad 8) (ad 2 0) (X 8) ++ (wX4 cA (ad 9) (X 9) ++ (wX3 cA (ad 10) (X 10) ++ (wX3 cA (ad 11) (X 11))))))))))))) ⟨hx, hb, hml, hown, hts⟩ (c_X6_isPerson l D cA (ad 2) (X 2) x1 z1 hz1) (cwV 1 hts gX7_frees_X6_isPerson rfl rfl rfl hd_X6_isPerson ⟨(Nat.le_of_ble_eq_true rfl), (Nat.le_of_ble_eq_true rfl)⟩) (recvK hK (P_left (wc := wX6 cA (ad 2) (X 2)) (R := (tX7 ad (X 6) ++ (wX5 cA (ad 0) (X 0) ++ (wX2 cA (ad 1) (X 1) ++ (wX6 cA (ad 3) (X 3) ++ (wX6 cA (ad 4) (X 4) ++ (wX6 cA (ad 5) (X 5) ++ (wX1 cA (ad 7) (X 7) ++ (wX0 cA (ad 8) (ad 2 0) (X 8) ++ (wX4 cA (ad 9) (X 9) ++ (wX3 cA (ad 10) (X 10) ++ (wX3 cA (ad 11) (X 11))))))))))))) (perm_of (fun c hc => by unfold wX7 wX7b; simp only [hc]; omega)) hP) 0 6 rfl rfl) hK hP (perm_of (fun c hc => by unfold wX7 wX7b; simp only [hc]; omega)) rfl hl.1 rfl (Nat.le_of_ble_eq_true rfl) dX7_frees_5 ⟨(Nat.le_of_ble_eq_true rfl), (Nat.le_of_ble_eq_true rfl)⟩ ?_
  refine lv_if_ne (tgt := 13) hx hb dX7_frees_8 (by decide) (fun hc => ?_) (fun hc => ?_)
  · have h := if_f hc h
    refine lv_aload_n hx hb dX7_frees_13 rfl (lv_at hl 0 rfl) ?_
    refine va_get (D := D) (ci := 7) (v := .ref (ad 8 0)) (C := RX7) (T := TX7) (N := 12) hx hb hts hinX7 hown hK.1 hP 0 rfl rfl 8 (by decide) lkf55 (fun _ h9 => h9) rfl dX7_frees_14 ?_
    refine lv_aload_n hx hb dX7_frees_17 rfl (lv_at hl 0 rfl) ?_
    refine va_get (D := D) (ci := 7) (v := .ref (ad 2 0)) (C := RX7) (T := TX7) (N := 12) hx hb hts hinX7 hown hK.1 hP 0 rfl rfl 2 (by decide) lkf26 (fun _ h9 => h9) rfl dX7_frees_18 ?_
    refine va_getN (D := D) (ci := 6) (v := .int ((X 2).1 7)) (C := RX6) (T := TX6) (N := 12) hx hb hts hinX6 hown hK.1 (P_left (wc := wX6 cA (ad 2) (X 2)) (R := (tX7 ad (X 6) ++ (wX5 cA (ad 0) (X 0) ++ (wX2 cA (ad 1) (X 1) ++ (wX6 cA (ad 3) (X 3) ++ (wX6 cA (ad 4) (X 4) ++ (wX6 cA (ad 5) (X 5) ++ (wX1 cA (ad 7) (X 7) ++ (wX0 cA (ad 8) (ad 2 0) (X 8) ++ (wX4 cA (ad 9) (X 9) ++ (wX3 cA (ad 10) (X 10) ++ (wX3 cA (ad 11) (X 11))))))))))))) (perm_of (fun c hc => by unfold wX7 wX7b; simp only [hc]; omega)) hP) 0 rfl rfl 7 (by decide) lkf145 (fun _ h9 => h9) rfl dX7_frees_21 ?_
    obtain ⟨z2, hz2, h⟩ := bd_some h
    refine pR_V (As := [.int ((X 2).1 7)]) (rest := []) (wr := (tX7 ad (X 6) ++ (wX5 cA (ad 0) (X 0) ++ (wX2 cA (ad 1) (X 1) ++ (wX6 cA (ad 3) (X 3) ++ (wX6 cA (ad 4) (X 4) ++ (wX6 cA (ad 5) (X 5) ++ (wX1 cA (ad 7) (X 7) ++ (wX4 cA (ad 9) (X 9) ++ (wX3 cA (ad 10) (X 10) ++ (wX3 cA (ad 11) (X 11)))))))))))) ⟨hx, hb, hml, hown, hts⟩ (c_X0_stuckForEver l D cA (ad 8) (X 8) (ad 2) (X 2) ((X 2).1 7) z2 hz2) (cwV 1 hts gX7_frees_X0_stuckForEver rfl rfl rfl hd_X0_stuckForEver ⟨(Nat.le_of_ble_eq_true rfl), (Nat.le_of_ble_eq_true rfl)⟩) (recvK hK (P_left (wc := wX0 cA (ad 8) (ad 2 0) (X 8)) (R := (tX7 ad (X 6) ++ (wX5 cA (ad 0) (X 0) ++ (wX2 cA (ad 1) (X 1) ++ (wX6 cA (ad 2) (X 2) ++ (wX6 cA (ad 3) (X 3) ++ (wX6 cA (ad 4) (X 4) ++ (wX6 cA (ad 5) (X 5) ++ (wX1 cA (ad 7) (X 7) ++ (wX4 cA (ad 9) (X 9) ++ (wX3 cA (ad 10) (X 10) ++ (wX3 cA (ad 11) (X 11))))))))))))) (perm_of (fun c hc => by unfold wX7 wX7b; simp only [hc]; omega)) hP) 0 0 rfl rfl) hK hP (perm_of (fun c hc => by unfold wX7 wX7b; simp only [hc]; omega)) rfl hl.1 rfl (Nat.le_of_ble_eq_true rfl) dX7_frees_24 ⟨(Nat.le_of_ble_eq_true rfl), (Nat.le_of_ble_eq_true rfl)⟩ ?_
    refine lv_istore_n (lv' := [(2, .int z2), (0, .ref (ad 6 0)), (1, .int x1)]) hx hb dX7_frees_27 rfl hl (by decide) rfl (fun ls hl => ?_)
    refine lv_aload_n hx hb dX7_frees_28 rfl (lv_at hl 1 rfl) ?_
    refine va_get (D := D) (ci := 7) (v := .ref (ad 8 0)) (C := RX7) (T := TX7) (N := 12) hx hb hts hinX7 hown hK.1 hP 0 rfl rfl 8 (by decide) lkf55 (fun _ h9 => h9) rfl dX7_frees_29 ?_
    refine lv_aload_n hx hb dX7_frees_32 rfl (lv_at hl 1 rfl) ?_
    refine va_get (D := D) (ci := 7) (v := .ref (ad 2 0)) (C := RX7) (T := TX7) (N := 12) hx hb hts hinX7 hown hK.1 hP 0 rfl rfl 2 (by decide) lkf26 (fun _ h9 => h9) rfl dX7_frees_33 ?_
    refine va_getN (D := D) (ci := 6) (v := .int ((X 2).1 7)) (C := RX6) (T := TX6) (N := 12) hx hb hts hinX6 hown hK.1 (P_left (wc := wX6 cA (ad 2) (X 2)) (R := (tX7 ad (X 6) ++ (wX5 cA (ad 0) (X 0) ++ (wX2 cA (ad 1) (X 1) ++ (wX6 cA (ad 3) (X 3) ++ (wX6 cA (ad 4) (X 4) ++ (wX6 cA (ad 5) (X 5) ++ (wX1 cA (ad 7) (X 7) ++ (wX0 cA (ad 8) (ad 2 0) (X 8) ++ (wX4 cA (ad 9) (X 9) ++ (wX3 cA (ad 10) (X 10) ++ (wX3 cA (ad 11) (X 11))))))))))))) (perm_of (fun c hc => by unfold wX7 wX7b; simp only [hc]; omega)) hP) 0 rfl rfl 7 (by decide) lkf145 (fun _ h9 => h9) rfl dX7_frees_36 ?_
    refine lv_iload_n hx hb dX7_frees_39 rfl (lv_at hl 2 rfl) ?_
    obtain ⟨z3, hz3, h⟩ := bd_some h
    refine cR_S (As := [.int x1]) (rest := [.int ((X 2).1 7), .ref (ad 8 0)]) ⟨hx, hb, hml, hown, hts⟩ (c_X7_bit l D cA  x1 z3 hz3) (va_cwS 1 hts gX7_frees_X7_bit rfl rfl rfl hd_X7_bit.2 ⟨(Nat.le_of_ble_eq_true rfl), (Nat.le_of_ble_eq_true rfl)⟩) hK hP [] rfl rfl hl.1 rfl (Nat.le_of_ble_eq_true rfl) dX7_frees_40 ⟨(Nat.le_of_ble_eq_true rfl), (Nat.le_of_ble_eq_true rfl)⟩ ?_
    refine lv_ior hx hb dX7_frees_43 ?_
    obtain ⟨z4, hz4, h⟩ := bd_some h
    refine pR_V (As := [.int (((X 2).1 7) ||| z3)]) (rest := []) (wr := (tX7 ad (X 6) ++ (wX5 cA (ad 0) (X 0) ++ (wX2 cA (ad 1) (X 1) ++ (wX6 cA (ad 3) (X 3) ++ (wX6 cA (ad 4) (X 4) ++ (wX6 cA (ad 5) (X 5) ++ (wX1 cA (ad 7) (X 7) ++ (wX4 cA (ad 9) (X 9) ++ (wX3 cA (ad 10) (X 10) ++ (wX3 cA (ad 11) (X 11)))))))))))) ⟨hx, hb, hml, hown, hts⟩ (c_X0_stuckForEver l D cA (ad 8) (X 8) (ad 2) (X 2) (((X 2).1 7) ||| z3) z4 hz4) (cwV 1 hts gX7_frees_X0_stuckForEver rfl rfl rfl hd_X0_stuckForEver ⟨(Nat.le_of_ble_eq_true rfl), (Nat.le_of_ble_eq_true rfl)⟩) (recvK hK (P_left (wc := wX0 cA (ad 8) (ad 2 0) (X 8)) (R := (tX7 ad (X 6) ++ (wX5 cA (ad 0) (X 0) ++ (wX2 cA (ad 1) (X 1) ++ (wX6 cA (ad 2) (X 2) ++ (wX6 cA (ad 3) (X 3) ++ (wX6 cA (ad 4) (X 4) ++ (wX6 cA (ad 5) (X 5) ++ (wX1 cA (ad 7) (X 7) ++ (wX4 cA (ad 9) (X 9) ++ (wX3 cA (ad 10) (X 10) ++ (wX3 cA (ad 11) (X 11))))))))))))) (perm_of (fun c hc => by unfold wX7 wX7b; simp only [hc]; omega)) hP) 0 0 rfl rfl) hK hP (perm_of (fun c hc => by unfold wX7 wX7b; simp only [hc]; omega)) rfl hl.1 rfl (Nat.le_of_ble_eq_true rfl) dX7_frees_44 ⟨(Nat.le_of_ble_eq_true rfl), (Nat.le_of_ble_eq_true rfl)⟩ ?_
    refine lv_istore_n (lv' := [(3, .int z4), (2, .int z2), (0, .ref (ad 6 0)), (1, .int x1)]) hx hb dX7_frees_47 rfl hl (by decide) rfl (fun ls hl => ?_)
    refine lv_iload_n hx hb dX7_frees_48 rfl (lv_at hl 1 rfl) ?_
    obtain ⟨z5, hz5, h⟩ := bd_some h
    refine cR_S (As := [.int z2]) (rest := []) ⟨hx, hb, hml, hown, hts⟩ (c_J6_bitCount_0f7a4 l D cA  z2 z5 hz5) (va_cwS 1 hts gX7_frees_J6_bitCount_0f7a4 rfl rfl rfl hd_J6_bitCount_0f7a4.2 ⟨(Nat.le_of_ble_eq_true rfl), (Nat.le_of_ble_eq_true rfl)⟩) hK hP [] rfl rfl hl.1 rfl (Nat.le_of_ble_eq_true rfl) dX7_frees_49 ⟨(Nat.le_of_ble_eq_true rfl), (Nat.le_of_ble_eq_true rfl)⟩ ?_
    refine lv_iload_n hx hb dX7_frees_52 rfl (lv_at hl 0 rfl) ?_
    obtain ⟨z6, hz6, h⟩ := bd_some h
    refine cR_S (As := [.int z4]) (rest := [.int z5]) ⟨hx, hb, hml, hown, hts⟩ (c_J6_bitCount_0f7a4 l D cA  z4 z6 hz6) (va_cwS 1 hts gX7_frees_J6_bitCount_0f7a4 rfl rfl rfl hd_J6_bitCount_0f7a4.2 ⟨(Nat.le_of_ble_eq_true rfl), (Nat.le_of_ble_eq_true rfl)⟩) hK hP [] rfl rfl hl.1 rfl (Nat.le_of_ble_eq_true rfl) dX7_frees_53 ⟨(Nat.le_of_ble_eq_true rfl), (Nat.le_of_ble_eq_true rfl)⟩ ?_
    refine lv_isub hx hb dX7_frees_56 ?_
    cases h
    exact hend _ _ dX7_frees_57
  · have h := if_t hc h
    refine lv_iconst (v := (-1 : Int32)) hx hb dX7_frees_11 (by decide) ?_
    cases h
    exact hend _ _ dX7_frees_12
abbrev rmX7_fresh : Room := ({ frames := 3, cells := 0, slots := 0, locals := 69 } : Room)
set_option maxHeartbeats 4000000 in
set_option maxRecDepth 100000 in
theorem c_X7_fresh (l : Launch) (D : va_G) (cA : ClassId) (ad : (Nat → Nat → Nat)) (X : (Nat → Ob)) (x1 : Int32) (x2 : Int32) (x3 : Int32) (r : Int32) (h : f_X7_fresh X x1 x2 x3 = some r) : ConR l yX7_fresh wsX7_fresh rmX7_fresh D cA [.ref (ad 6 0), .int x1, .int x2, .int x3] (wX7 cA ad X) r := by
  refine ConR.enter (cc := cX7_fresh) (maxL := 5) (by decide) rfl (Nat.le_of_ble_eq_true rfl) ?_
  intro p e s m args below meth c Q hx hb hml hown hts hK hP  hend ls hl
  have hl : lv_has ls 5 [(0, .ref (ad 6 0)), (1, .int x1), (2, .int x2), (3, .int x3)] := hl
  unfold f_X7_fresh at h
  have lkf26 := hts (.fieldLink RX7 26 "TiedToTown" "town" "LTiedToTown$Town;") (List.mem_of_getElem? (i := 1) rfl)
  have hinX7 : ∀ w ∈ wsX70, w ∈ wsX7_fresh := fun w h => List.mem_cons_of_mem _ (List.mem_append_left _ (List.mem_append_left _ (List.mem_append_right _ h)))
  have lkf55 := hts (.fieldLink RX7 55 "TiedToTown" "outlook" "LTiedToTown$Outlook;") (List.mem_of_getElem? (i := 2) rfl)
  have lkf127 := va_Nw.use (w := Cond.fieldLinkNest RX7 127 "TiedToTown$Town" "tied" "I" "TiedToTown") rfl (A := args) (hK.2 _ (List.mem_of_getElem? (i := 20) rfl))
  have hinX6 : ∀ w ∈ wsX60, w ∈ wsX7_fresh := fun w h => List.mem_cons_of_mem _ (List.mem_append_left _ (List.mem_append_right _ h))
  refine lv_iload_n hx hb dX7_fresh_0 rfl (lv_at hl 1 rfl) ?_
  refine lv_iconst (v := (1 : Int32)) hx hb dX7_fresh_1 (by decide) ?_
  refine lv_icmp_lt (tgt := 31) hx hb dX7_fresh_2 (by decide) (fun hc => ?_) (fun hc => ?_)
  · have h := if_t hc h
    refine lv_iconst (v := (-1 : Int32)) hx hb dX7_fresh_31 (by decide) ?_
    cases h
    exact hend _ _ dX7_fresh_32
  · have h := if_f hc h
    refine lv_iload_n hx hb dX7_fresh_5 rfl (lv_at hl 1 rfl) ?_
    refine lv_bipush (v := (8 : Int32)) hx hb dX7_fresh_6 (by decide) ?_
    refine lv_icmp_gt (tgt := 31) hx hb dX7_fresh_8 (by decide) (fun hc => ?_) (fun hc => ?_)
    · have h := if_t hc h
      refine lv_iconst (v := (-1 : Int32)) hx hb dX7_fresh_31 (by decide) ?_
      cases h
      exact hend _ _ dX7_fresh_32
    · have h := if_f hc h
      refine lv_aload_n hx hb dX7_fresh_11 rfl (lv_at hl 0 rfl) ?_
      refine va_get (D := D) (ci := 7) (v := .ref (ad 2 0)) (C := RX7) (T := TX7) (N := 12) hx hb hts hinX7 hown hK.1 hP 0 rfl rfl 2 (by decide) lkf26 (fun _ h9 => h9) rfl dX7_fresh_12 ?_
      refine lv_iload_n hx hb dX7_fresh_15 rfl (lv_at hl 2 rfl) ?_
      obtain ⟨z1, hz1, h⟩ := bd_some h
      refine pR_V (As := [.int x2]) (rest := []) (wr := (tX7 ad (X 6) ++ (wX5 cA (ad 0) (X 0) ++ (wX2 cA (ad 1) (X 1) ++ (wX6 cA (ad 3) (X 3) ++ (wX6 cA (ad 4) (X 4) ++ (wX6 cA (ad 5) (X 5) ++ (wX1 cA (ad 7) (X 7) ++ (wX0 cA (ad 8) (ad 2 0) (X 8) ++ (wX4 cA (ad 9) (X 9) ++ (wX3 cA (ad 10) (X 10) ++ (wX3 cA (ad 11) (X 11))))))))))))) ⟨hx, hb, hml, hown, hts⟩ (c_X6_isSet l D cA (ad 2) (X 2) x2 z1 hz1) (cwV 1 hts gX7_fresh_X6_isSet rfl rfl rfl hd_X6_isSet ⟨(Nat.le_of_ble_eq_true rfl), (Nat.le_of_ble_eq_true rfl)⟩) (recvK hK (P_left (wc := wX6 cA (ad 2) (X 2)) (R := (tX7 ad (X 6) ++ (wX5 cA (ad 0) (X 0) ++ (wX2 cA (ad 1) (X 1) ++ (wX6 cA (ad 3) (X 3) ++ (wX6 cA (ad 4) (X 4) ++ (wX6 cA (ad 5) (X 5) ++ (wX1 cA (ad 7) (X 7) ++ (wX0 cA (ad 8) (ad 2 0) (X 8) ++ (wX4 cA (ad 9) (X 9) ++ (wX3 cA (ad 10) (X 10) ++ (wX3 cA (ad 11) (X 11))))))))))))) (perm_of (fun c hc => by unfold wX7 wX7b; simp only [hc]; omega)) hP) 0 6 rfl rfl) hK hP (perm_of (fun c hc => by unfold wX7 wX7b; simp only [hc]; omega)) rfl hl.1 rfl (Nat.le_of_ble_eq_true rfl) dX7_fresh_16 ⟨(Nat.le_of_ble_eq_true rfl), (Nat.le_of_ble_eq_true rfl)⟩ ?_
      refine lv_if_eq (tgt := 31) hx hb dX7_fresh_19 (by decide) (fun hc => ?_) (fun hc => ?_)
      · have h := if_t hc h
        refine lv_iconst (v := (-1 : Int32)) hx hb dX7_fresh_31 (by decide) ?_
        cases h
        exact hend _ _ dX7_fresh_32
      · have h := if_f hc h
        refine lv_iload_n hx hb dX7_fresh_22 rfl (lv_at hl 3 rfl) ?_
        refine lv_if_lt (tgt := 31) hx hb dX7_fresh_23 (by decide) (fun hc => ?_) (fun hc => ?_)
        · have h := if_t hc h
          refine lv_iconst (v := (-1 : Int32)) hx hb dX7_fresh_31 (by decide) ?_
          cases h
          exact hend _ _ dX7_fresh_32
        · have h := if_f hc h
          refine lv_iload_n hx hb dX7_fresh_26 rfl (lv_at hl 3 rfl) ?_
          refine lv_iconst (v := (1 : Int32)) hx hb dX7_fresh_27 (by decide) ?_
          refine lv_icmp_le (tgt := 33) hx hb dX7_fresh_28 (by decide) (fun hc => ?_) (fun hc => ?_)
          · have h := if_t hc h
            refine lv_aload_n hx hb dX7_fresh_33 rfl (lv_at hl 0 rfl) ?_
            refine va_get (D := D) (ci := 7) (v := .ref (ad 8 0)) (C := RX7) (T := TX7) (N := 12) hx hb hts hinX7 hown hK.1 hP 0 rfl rfl 8 (by decide) lkf55 (fun _ h9 => h9) rfl dX7_fresh_34 ?_
            refine lv_iload_n hx hb dX7_fresh_37 rfl (lv_at hl 1 rfl) ?_
            refine lv_aload_n hx hb dX7_fresh_38 rfl (lv_at hl 0 rfl) ?_
            refine va_get (D := D) (ci := 7) (v := .ref (ad 2 0)) (C := RX7) (T := TX7) (N := 12) hx hb hts hinX7 hown hK.1 hP 0 rfl rfl 2 (by decide) lkf26 (fun _ h9 => h9) rfl dX7_fresh_39 ?_
            refine va_getN (D := D) (ci := 6) (v := .int ((X 2).1 10)) (C := RX6) (T := TX6) (N := 12) hx hb hts hinX6 hown hK.1 (P_left (wc := wX6 cA (ad 2) (X 2)) (R := (tX7 ad (X 6) ++ (wX5 cA (ad 0) (X 0) ++ (wX2 cA (ad 1) (X 1) ++ (wX6 cA (ad 3) (X 3) ++ (wX6 cA (ad 4) (X 4) ++ (wX6 cA (ad 5) (X 5) ++ (wX1 cA (ad 7) (X 7) ++ (wX0 cA (ad 8) (ad 2 0) (X 8) ++ (wX4 cA (ad 9) (X 9) ++ (wX3 cA (ad 10) (X 10) ++ (wX3 cA (ad 11) (X 11))))))))))))) (perm_of (fun c hc => by unfold wX7 wX7b; simp only [hc]; omega)) hP) 0 rfl rfl 10 (by decide) lkf127 (fun _ h9 => h9) rfl dX7_fresh_42 ?_
            refine lv_aload_n hx hb dX7_fresh_45 rfl (lv_at hl 0 rfl) ?_
            refine va_get (D := D) (ci := 7) (v := .ref (ad 8 0)) (C := RX7) (T := TX7) (N := 12) hx hb hts hinX7 hown hK.1 hP 0 rfl rfl 8 (by decide) lkf55 (fun _ h9 => h9) rfl dX7_fresh_46 ?_
            refine lv_iload_n hx hb dX7_fresh_49 rfl (lv_at hl 2 rfl) ?_
            obtain ⟨z2, hz2, h⟩ := bd_some h
            refine pR_V (As := [.int x2]) (rest := [.int ((X 2).1 10), .int x1, .ref (ad 8 0)]) (wr := (tX7 ad (X 6) ++ (wX5 cA (ad 0) (X 0) ++ (wX2 cA (ad 1) (X 1) ++ (wX6 cA (ad 3) (X 3) ++ (wX6 cA (ad 4) (X 4) ++ (wX6 cA (ad 5) (X 5) ++ (wX1 cA (ad 7) (X 7) ++ (wX4 cA (ad 9) (X 9) ++ (wX3 cA (ad 10) (X 10) ++ (wX3 cA (ad 11) (X 11)))))))))))) ⟨hx, hb, hml, hown, hts⟩ (c_X0_withAbove l D cA (ad 8) (X 8) (ad 2) (X 2) x2 z2 hz2) (cwV 1 hts gX7_fresh_X0_withAbove rfl rfl rfl hd_X0_withAbove ⟨(Nat.le_of_ble_eq_true rfl), (Nat.le_of_ble_eq_true rfl)⟩) (recvK hK (P_left (wc := wX0 cA (ad 8) (ad 2 0) (X 8)) (R := (tX7 ad (X 6) ++ (wX5 cA (ad 0) (X 0) ++ (wX2 cA (ad 1) (X 1) ++ (wX6 cA (ad 2) (X 2) ++ (wX6 cA (ad 3) (X 3) ++ (wX6 cA (ad 4) (X 4) ++ (wX6 cA (ad 5) (X 5) ++ (wX1 cA (ad 7) (X 7) ++ (wX4 cA (ad 9) (X 9) ++ (wX3 cA (ad 10) (X 10) ++ (wX3 cA (ad 11) (X 11))))))))))))) (perm_of (fun c hc => by unfold wX7 wX7b; simp only [hc]; omega)) hP) 0 0 rfl rfl) hK hP (perm_of (fun c hc => by unfold wX7 wX7b; simp only [hc]; omega)) rfl hl.1 rfl (Nat.le_of_ble_eq_true rfl) dX7_fresh_50 ⟨(Nat.le_of_ble_eq_true rfl), (Nat.le_of_ble_eq_true rfl)⟩ ?_
            refine lv_iconst (v := (-1 : Int32)) hx hb dX7_fresh_53 (by decide) ?_
            refine lv_ixor hx hb dX7_fresh_54 ?_
            refine lv_iand hx hb dX7_fresh_55 ?_
            obtain ⟨z3, hz3, h⟩ := bd_some h
            refine pR_V (As := [.int x1, .int (((X 2).1 10) &&& (z2 ^^^ (-1 : Int32)))]) (rest := []) (wr := (tX7 ad (X 6) ++ (wX5 cA (ad 0) (X 0) ++ (wX2 cA (ad 1) (X 1) ++ (wX6 cA (ad 3) (X 3) ++ (wX6 cA (ad 4) (X 4) ++ (wX6 cA (ad 5) (X 5) ++ (wX1 cA (ad 7) (X 7) ++ (wX4 cA (ad 9) (X 9) ++ (wX3 cA (ad 10) (X 10) ++ (wX3 cA (ad 11) (X 11)))))))))))) ⟨hx, hb, hml, hown, hts⟩ (c_X0_shortest l D cA (ad 8) (X 8) (ad 2) (X 2) x1 (((X 2).1 10) &&& (z2 ^^^ (-1 : Int32))) z3 hz3) (cwV 2 hts gX7_fresh_X0_shortest rfl rfl rfl hd_X0_shortest ⟨(Nat.le_of_ble_eq_true rfl), (Nat.le_of_ble_eq_true rfl)⟩) (recvK hK (P_left (wc := wX0 cA (ad 8) (ad 2 0) (X 8)) (R := (tX7 ad (X 6) ++ (wX5 cA (ad 0) (X 0) ++ (wX2 cA (ad 1) (X 1) ++ (wX6 cA (ad 2) (X 2) ++ (wX6 cA (ad 3) (X 3) ++ (wX6 cA (ad 4) (X 4) ++ (wX6 cA (ad 5) (X 5) ++ (wX1 cA (ad 7) (X 7) ++ (wX4 cA (ad 9) (X 9) ++ (wX3 cA (ad 10) (X 10) ++ (wX3 cA (ad 11) (X 11))))))))))))) (perm_of (fun c hc => by unfold wX7 wX7b; simp only [hc]; omega)) hP) 0 0 rfl rfl) hK hP (perm_of (fun c hc => by unfold wX7 wX7b; simp only [hc]; omega)) rfl hl.1 rfl (Nat.le_of_ble_eq_true rfl) dX7_fresh_56 ⟨(Nat.le_of_ble_eq_true rfl), (Nat.le_of_ble_eq_true rfl)⟩ ?_
            refine lv_istore (lv' := [(4, .int z3), (0, .ref (ad 6 0)), (1, .int x1), (2, .int x2), (3, .int x3)]) hx hb dX7_fresh_59 hl (by decide) rfl (fun ls hl => ?_)
            refine lv_iload hx hb dX7_fresh_61 (lv_at hl 0 rfl) ?_
            refine lv_if_ne (tgt := 69) hx hb dX7_fresh_63 (by decide) (fun hc => ?_) (fun hc => ?_)
            · have h := if_f hc h
              refine lv_iload_n hx hb dX7_fresh_69 rfl (lv_at hl 4 rfl) ?_
              refine lv_if_ne (tgt := 78) hx hb dX7_fresh_70 (by decide) (fun hc => ?_) (fun hc => ?_)
              · have h := if_f hc h
                refine lv_iload hx hb dX7_fresh_78 (lv_at hl 0 rfl) ?_
                obtain ⟨z4, hz4, h⟩ := bd_some h
                refine cR_S (As := [.int z3]) (rest := []) ⟨hx, hb, hml, hown, hts⟩ (c_X7_ropeOf l D cA  z3 z4 hz4) (va_cwS 1 hts gX7_fresh_X7_ropeOf rfl rfl rfl hd_X7_ropeOf.2 ⟨(Nat.le_of_ble_eq_true rfl), (Nat.le_of_ble_eq_true rfl)⟩) hK hP [] rfl rfl hl.1 rfl (Nat.le_of_ble_eq_true rfl) dX7_fresh_80 ⟨(Nat.le_of_ble_eq_true rfl), (Nat.le_of_ble_eq_true rfl)⟩ ?_
                cases h
                exact hend _ _ dX7_fresh_83
              · have h := if_t hc h
                refine lv_iload hx hb dX7_fresh_73 (lv_at hl 0 rfl) ?_
                refine lv_goto (tgt := 83) hx hb dX7_fresh_75 (by decide) ?_
                cases h
                exact hend _ _ dX7_fresh_83
            · have h := if_t hc h
              refine lv_bipush (v := (-4 : Int32)) hx hb dX7_fresh_66 (by decide) ?_
              cases h
              exact hend _ _ dX7_fresh_68
          · have h := if_f hc h
            refine lv_iconst (v := (-1 : Int32)) hx hb dX7_fresh_31 (by decide) ?_
            cases h
            exact hend _ _ dX7_fresh_32
abbrev rmX7_orders : Room := ({ frames := 3, cells := 0, slots := 0, locals := 65 } : Room)
set_option maxHeartbeats 4000000 in
set_option maxRecDepth 100000 in
theorem c_X7_orders (l : Launch) (D : va_G) (cA : ClassId) (ad : (Nat → Nat → Nat)) (X : (Nat → Ob)) (r : Int32) (X_ : (Nat → Ob)) (h : f_X7_orders X = some (r, X_)) : ConW l yX7_orders wsX7_orders rmX7_orders D cA [.ref (ad 6 0)] (wX7 cA ad X) r (wX7 cA ad X_) := by
  refine ConW.enter (cc := cX7_orders) (maxL := 1) (by decide) rfl (Nat.le_of_ble_eq_true rfl) ?_
  intro p e s m args below meth c Q A hx hb hml hown hts hK hP hD hA hend ls hl
  have hS : va_S A s.heap s.heap [] := va_S.rf
  have hl : lv_has ls 1 [(0, .ref (ad 6 0))] := hl
  unfold f_X7_orders at h
  have lkf55 := hts (.fieldLink RX7 55 "TiedToTown" "outlook" "LTiedToTown$Outlook;") (List.mem_of_getElem? (i := 1) rfl)
  have hinX7 : ∀ w ∈ wsX70, w ∈ wsX7_orders := fun w h => List.mem_cons_of_mem _ (List.mem_append_left _ (List.mem_append_left _ (List.mem_append_right _ h)))
  refine lv_aload_n hx hb dX7_orders_0 rfl (lv_at hl 0 rfl) ?_
  refine va_get (D := D) (ci := 7) (v := .ref (ad 8 0)) (C := RX7) (T := TX7) (N := 12) hx hb hts hinX7 hown hK.1 hP 0 rfl rfl 8 (by decide) lkf55 (fun _ h9 => h9) rfl dX7_orders_1 ?_
  obtain ⟨z1, hz1, h⟩ := bd_some h
  refine pW_V (As := []) (rest := []) (wr := (tX7 ad (X 6) ++ (wX5 cA (ad 0) (X 0) ++ (wX2 cA (ad 1) (X 1) ++ (wX6 cA (ad 3) (X 3) ++ (wX6 cA (ad 4) (X 4) ++ (wX6 cA (ad 5) (X 5) ++ (wX1 cA (ad 7) (X 7) ++ (wX4 cA (ad 9) (X 9) ++ (wX3 cA (ad 10) (X 10) ++ (wX3 cA (ad 11) (X 11)))))))))))) (wn := (wX7 cA ad (sX X 8 z1.2))) ⟨hx, hb, hml, hown, hts⟩ (c_X0_tyingOrders l D cA (ad 8) (X 8) (ad 2) (X 2)  z1.1 z1.2 hz1) (cwV 0 hts gX7_orders_X0_tyingOrders rfl rfl rfl hd_X0_tyingOrders ⟨(Nat.le_of_ble_eq_true rfl), (Nat.le_of_ble_eq_true rfl)⟩) (recvK hK (P_left (wc := wX0 cA (ad 8) (ad 2 0) (X 8)) (R := (tX7 ad (X 6) ++ (wX5 cA (ad 0) (X 0) ++ (wX2 cA (ad 1) (X 1) ++ (wX6 cA (ad 2) (X 2) ++ (wX6 cA (ad 3) (X 3) ++ (wX6 cA (ad 4) (X 4) ++ (wX6 cA (ad 5) (X 5) ++ (wX1 cA (ad 7) (X 7) ++ (wX4 cA (ad 9) (X 9) ++ (wX3 cA (ad 10) (X 10) ++ (wX3 cA (ad 11) (X 11))))))))))))) (perm_of (fun c hc => by unfold wX7 wX7b; simp only [hc]; omega)) hP) 0 0 rfl rfl) hK hP hD hS hA (perm_of (fun c hc => by unfold wX7 wX7b; simp only [hc]; omega)) (perm_of (fun c hc => by rw [show wX7 cA ad (sX X 8 z1.2) = wX7b cA ad (X 0) (X 1) (X 2) (X 3) (X 4) (X 5) (X 6) (X 7) z1.2 (X 9) (X 10) (X 11) from rfl]; unfold wX7b; simp only [hc]; omega)) rfl hl.1 rfl (Nat.le_of_ble_eq_true rfl) dX7_orders_4 ⟨(Nat.le_of_ble_eq_true rfl), (Nat.le_of_ble_eq_true rfl)⟩ (fun H locs hP hD hS => ?_)
  obtain ⟨s2, es2⟩ : ∃ z, z = sX X 8 z1.2 := ⟨_, rfl⟩
  rw [← es2] at hP hD
  have h := nm_ap es2 h
  cases h
  exact hend _ _ _ _ hP hD hS dX7_orders_7
abbrev rmX7_tell : Room := ({ frames := 3, cells := 0, slots := 0, locals := 64 } : Room)
set_option maxHeartbeats 4000000 in
set_option maxRecDepth 100000 in
theorem c_X7_tell (l : Launch) (D : va_G) (cA : ClassId) (ad : (Nat → Nat → Nat)) (X : (Nat → Ob)) (x1 : Int32) (r : Int32) (X_ : (Nat → Ob)) (h : f_X7_tell X x1 = some (r, X_)) : ConW l yX7_tell wsX7_tell rmX7_tell D cA [.ref (ad 6 0), .int x1] (wX7 cA ad X) r (wX7 cA ad X_) := by
  refine ConW.enter (cc := cX7_tell) (maxL := 2) (by decide) rfl (Nat.le_of_ble_eq_true rfl) ?_
  intro p e s m args below meth c Q A hx hb hml hown hts hK hP hD hA hend ls hl
  have hS : va_S A s.heap s.heap [] := va_S.rf
  have hl : lv_has ls 2 [(0, .ref (ad 6 0)), (1, .int x1)] := hl
  unfold f_X7_tell at h
  have lkf26 := hts (.fieldLink RX7 26 "TiedToTown" "town" "LTiedToTown$Town;") (List.mem_of_getElem? (i := 1) rfl)
  have hinX7 : ∀ w ∈ wsX70, w ∈ wsX7_tell := fun w h => List.mem_cons_of_mem _ (List.mem_append_left _ (List.mem_append_left _ (List.mem_append_right _ h)))
  have lkf62 := hts (.fieldLink RX7 62 "TiedToTown" "row" "LTiedToTown$Row;") (List.mem_of_getElem? (i := 2) rfl)
  refine lv_aload_n hx hb dX7_tell_0 rfl (lv_at hl 0 rfl) ?_
  refine va_get (D := D) (ci := 7) (v := .ref (ad 2 0)) (C := RX7) (T := TX7) (N := 12) hx hb hts hinX7 hown hK.1 hP 0 rfl rfl 2 (by decide) lkf26 (fun _ h9 => h9) rfl dX7_tell_1 ?_
  refine lv_iload_n hx hb dX7_tell_4 rfl (lv_at hl 1 rfl) ?_
  obtain ⟨z1, hz1, h⟩ := bd_some h
  refine pR_V (As := [.int x1]) (rest := []) (wr := (tX7 ad (X 6) ++ (wX5 cA (ad 0) (X 0) ++ (wX2 cA (ad 1) (X 1) ++ (wX6 cA (ad 3) (X 3) ++ (wX6 cA (ad 4) (X 4) ++ (wX6 cA (ad 5) (X 5) ++ (wX1 cA (ad 7) (X 7) ++ (wX0 cA (ad 8) (ad 2 0) (X 8) ++ (wX4 cA (ad 9) (X 9) ++ (wX3 cA (ad 10) (X 10) ++ (wX3 cA (ad 11) (X 11))))))))))))) ⟨hx, hb, hml, hown, hts⟩ (c_X6_isKnot l D cA (ad 2) (X 2) x1 z1 hz1) (cwV 1 hts gX7_tell_X6_isKnot rfl rfl rfl hd_X6_isKnot ⟨(Nat.le_of_ble_eq_true rfl), (Nat.le_of_ble_eq_true rfl)⟩) (recvK hK (P_left (wc := wX6 cA (ad 2) (X 2)) (R := (tX7 ad (X 6) ++ (wX5 cA (ad 0) (X 0) ++ (wX2 cA (ad 1) (X 1) ++ (wX6 cA (ad 3) (X 3) ++ (wX6 cA (ad 4) (X 4) ++ (wX6 cA (ad 5) (X 5) ++ (wX1 cA (ad 7) (X 7) ++ (wX0 cA (ad 8) (ad 2 0) (X 8) ++ (wX4 cA (ad 9) (X 9) ++ (wX3 cA (ad 10) (X 10) ++ (wX3 cA (ad 11) (X 11))))))))))))) (perm_of (fun c hc => by unfold wX7 wX7b; simp only [hc]; omega)) hP) 0 6 rfl rfl) hK hP (perm_of (fun c hc => by unfold wX7 wX7b; simp only [hc]; omega)) rfl hl.1 rfl (Nat.le_of_ble_eq_true rfl) dX7_tell_5 ⟨(Nat.le_of_ble_eq_true rfl), (Nat.le_of_ble_eq_true rfl)⟩ ?_
  refine lv_if_ne (tgt := 13) hx hb dX7_tell_8 (by decide) (fun hc => ?_) (fun hc => ?_)
  · have h := if_f hc h
    refine lv_aload_n hx hb dX7_tell_13 rfl (lv_at hl 0 rfl) ?_
    refine va_get (D := D) (ci := 7) (v := .ref (ad 9 0)) (C := RX7) (T := TX7) (N := 12) hx hb hts hinX7 hown hK.1 hP 0 rfl rfl 9 (by decide) lkf62 (fun _ h9 => h9) rfl dX7_tell_14 ?_
    refine lv_iload_n hx hb dX7_tell_17 rfl (lv_at hl 1 rfl) ?_
    obtain ⟨z2, hz2, h⟩ := bd_some h
    refine pR_V (As := [.int x1]) (rest := []) (wr := (tX7 ad (X 6) ++ (wX5 cA (ad 0) (X 0) ++ (wX2 cA (ad 1) (X 1) ++ (wX6 cA (ad 2) (X 2) ++ (wX6 cA (ad 3) (X 3) ++ (wX6 cA (ad 4) (X 4) ++ (wX6 cA (ad 5) (X 5) ++ (wX1 cA (ad 7) (X 7) ++ (wX0 cA (ad 8) (ad 2 0) (X 8) ++ (wX3 cA (ad 10) (X 10) ++ (wX3 cA (ad 11) (X 11))))))))))))) ⟨hx, hb, hml, hown, hts⟩ (c_X4_holds l D cA (ad 9) (X 9) x1 z2 hz2) (cwV 1 hts gX7_tell_X4_holds rfl rfl rfl hd_X4_holds ⟨(Nat.le_of_ble_eq_true rfl), (Nat.le_of_ble_eq_true rfl)⟩) (recvK hK (P_left (wc := wX4 cA (ad 9) (X 9)) (R := (tX7 ad (X 6) ++ (wX5 cA (ad 0) (X 0) ++ (wX2 cA (ad 1) (X 1) ++ (wX6 cA (ad 2) (X 2) ++ (wX6 cA (ad 3) (X 3) ++ (wX6 cA (ad 4) (X 4) ++ (wX6 cA (ad 5) (X 5) ++ (wX1 cA (ad 7) (X 7) ++ (wX0 cA (ad 8) (ad 2 0) (X 8) ++ (wX3 cA (ad 10) (X 10) ++ (wX3 cA (ad 11) (X 11))))))))))))) (perm_of (fun c hc => by unfold wX7 wX7b; simp only [hc]; omega)) hP) 0 4 rfl rfl) hK hP (perm_of (fun c hc => by unfold wX7 wX7b; simp only [hc]; omega)) rfl hl.1 rfl (Nat.le_of_ble_eq_true rfl) dX7_tell_18 ⟨(Nat.le_of_ble_eq_true rfl), (Nat.le_of_ble_eq_true rfl)⟩ ?_
    refine lv_if_eq (tgt := 27) hx hb dX7_tell_21 (by decide) (fun hc => ?_) (fun hc => ?_)
    · have h := if_t hc h
      refine lv_aload_n hx hb dX7_tell_27 rfl (lv_at hl 0 rfl) ?_
      refine va_get (D := D) (ci := 7) (v := .ref (ad 9 0)) (C := RX7) (T := TX7) (N := 12) hx hb hts hinX7 hown hK.1 hP 0 rfl rfl 9 (by decide) lkf62 (fun _ h9 => h9) rfl dX7_tell_28 ?_
      refine lv_iload_n hx hb dX7_tell_31 rfl (lv_at hl 1 rfl) ?_
      obtain ⟨z3, hz3, h⟩ := bd_some h
      refine pV_V (As := [.int x1]) (rest := []) (wr := (tX7 ad (X 6) ++ (wX5 cA (ad 0) (X 0) ++ (wX2 cA (ad 1) (X 1) ++ (wX6 cA (ad 2) (X 2) ++ (wX6 cA (ad 3) (X 3) ++ (wX6 cA (ad 4) (X 4) ++ (wX6 cA (ad 5) (X 5) ++ (wX1 cA (ad 7) (X 7) ++ (wX0 cA (ad 8) (ad 2 0) (X 8) ++ (wX3 cA (ad 10) (X 10) ++ (wX3 cA (ad 11) (X 11))))))))))))) (wn := (wX7 cA ad (sX X 9 z3))) ⟨hx, hb, hml, hown, hts⟩ (c_X4_append l D cA (ad 9) (X 9) x1  z3 hz3) (cwV 1 hts gX7_tell_X4_append rfl rfl rfl hd_X4_append ⟨(Nat.le_of_ble_eq_true rfl), (Nat.le_of_ble_eq_true rfl)⟩) (recvK hK (P_left (wc := wX4 cA (ad 9) (X 9)) (R := (tX7 ad (X 6) ++ (wX5 cA (ad 0) (X 0) ++ (wX2 cA (ad 1) (X 1) ++ (wX6 cA (ad 2) (X 2) ++ (wX6 cA (ad 3) (X 3) ++ (wX6 cA (ad 4) (X 4) ++ (wX6 cA (ad 5) (X 5) ++ (wX1 cA (ad 7) (X 7) ++ (wX0 cA (ad 8) (ad 2 0) (X 8) ++ (wX3 cA (ad 10) (X 10) ++ (wX3 cA (ad 11) (X 11))))))))))))) (perm_of (fun c hc => by unfold wX7 wX7b; simp only [hc]; omega)) hP) 0 4 rfl rfl) hK hP hD hS hA (perm_of (fun c hc => by unfold wX7 wX7b; simp only [hc]; omega)) (perm_of (fun c hc => by rw [show wX7 cA ad (sX X 9 z3) = wX7b cA ad (X 0) (X 1) (X 2) (X 3) (X 4) (X 5) (X 6) (X 7) (X 8) z3 (X 10) (X 11) from rfl]; unfold wX7b; simp only [hc]; omega)) rfl hl.1 rfl (Nat.le_of_ble_eq_true rfl) dX7_tell_32 ⟨(Nat.le_of_ble_eq_true rfl), (Nat.le_of_ble_eq_true rfl)⟩ (fun H locs hP hD hS => ?_)
      obtain ⟨s4, es4⟩ : ∃ z, z = sX X 9 z3 := ⟨_, rfl⟩
      rw [← es4] at hP hD
      have h := nm_ap es4 h
      refine lv_aload_n hx hb dX7_tell_35 rfl (lv_at hl 0 rfl) ?_
      refine va_get (D := D) (ci := 7) (v := .ref (ad 9 0)) (C := RX7) (T := TX7) (N := 12) hx hb hts hinX7 hown hK.1 hP 0 rfl rfl 9 (by decide) lkf62 (fun _ h9 => h9) rfl dX7_tell_36 ?_
      obtain ⟨z5, hz5, h⟩ := bd_some h
      refine pR_V (As := []) (rest := []) (wr := (tX7 ad (s4 6) ++ (wX5 cA (ad 0) (s4 0) ++ (wX2 cA (ad 1) (s4 1) ++ (wX6 cA (ad 2) (s4 2) ++ (wX6 cA (ad 3) (s4 3) ++ (wX6 cA (ad 4) (s4 4) ++ (wX6 cA (ad 5) (s4 5) ++ (wX1 cA (ad 7) (s4 7) ++ (wX0 cA (ad 8) (ad 2 0) (s4 8) ++ (wX3 cA (ad 10) (s4 10) ++ (wX3 cA (ad 11) (s4 11))))))))))))) ⟨hx, hb, hml, hown, hts⟩ (c_X4_size l D cA (ad 9) (s4 9)  z5 hz5) (cwV 0 hts gX7_tell_X4_size rfl rfl rfl hd_X4_size ⟨(Nat.le_of_ble_eq_true rfl), (Nat.le_of_ble_eq_true rfl)⟩) (recvK hK (P_left (wc := wX4 cA (ad 9) (s4 9)) (R := (tX7 ad (s4 6) ++ (wX5 cA (ad 0) (s4 0) ++ (wX2 cA (ad 1) (s4 1) ++ (wX6 cA (ad 2) (s4 2) ++ (wX6 cA (ad 3) (s4 3) ++ (wX6 cA (ad 4) (s4 4) ++ (wX6 cA (ad 5) (s4 5) ++ (wX1 cA (ad 7) (s4 7) ++ (wX0 cA (ad 8) (ad 2 0) (s4 8) ++ (wX3 cA (ad 10) (s4 10) ++ (wX3 cA (ad 11) (s4 11))))))))))))) (perm_of (fun c hc => by unfold wX7 wX7b; simp only [hc]; omega)) hP) 0 4 rfl rfl) hK hP (perm_of (fun c hc => by unfold wX7 wX7b; simp only [hc]; omega)) rfl hl.1 rfl (Nat.le_of_ble_eq_true rfl) dX7_tell_39 ⟨(Nat.le_of_ble_eq_true rfl), (Nat.le_of_ble_eq_true rfl)⟩ ?_
      cases h
      exact hend _ _ _ _ hP hD hS dX7_tell_42
    · have h := if_f hc h
      refine lv_bipush (v := (-2 : Int32)) hx hb dX7_tell_24 (by decide) ?_
      cases h
      exact hend _ _ _ _ hP hD hS dX7_tell_26
  · have h := if_t hc h
    refine lv_iconst (v := (-1 : Int32)) hx hb dX7_tell_11 (by decide) ?_
    cases h
    exact hend _ _ _ _ hP hD hS dX7_tell_12
abbrev rmX7_noRow : Room := ({ frames := 1, cells := 0, slots := 0, locals := 20 } : Room)
set_option maxHeartbeats 4000000 in
set_option maxRecDepth 100000 in
theorem c_X7_noRow (l : Launch) (D : va_G) (cA : ClassId) (ad : (Nat → Nat → Nat)) (X : (Nat → Ob)) (r : Int32) (X_ : (Nat → Ob)) (h : f_X7_noRow X = some (r, X_)) : ConW l yX7_noRow wsX7_noRow rmX7_noRow D cA [.ref (ad 6 0)] (wX7 cA ad X) r (wX7 cA ad X_) := by
  refine ConW.enter (cc := cX7_noRow) (maxL := 2) (by decide) rfl (Nat.le_of_ble_eq_true rfl) ?_
  intro p e s m args below meth c Q A hx hb hml hown hts hK hP hD hA hend ls hl
  have hS : va_S A s.heap s.heap [] := va_S.rf
  have hl : lv_has ls 2 [(0, .ref (ad 6 0))] := hl
  unfold f_X7_noRow at h
  have lkf62 := hts (.fieldLink RX7 62 "TiedToTown" "row" "LTiedToTown$Row;") (List.mem_of_getElem? (i := 1) rfl)
  have hinX7 : ∀ w ∈ wsX70, w ∈ wsX7_noRow := fun w h => List.mem_cons_of_mem _ (List.mem_append_left _ (List.mem_append_right _ h))
  refine lv_aload_n hx hb dX7_noRow_0 rfl (lv_at hl 0 rfl) ?_
  refine va_get (D := D) (ci := 7) (v := .ref (ad 9 0)) (C := RX7) (T := TX7) (N := 12) hx hb hts hinX7 hown hK.1 hP 0 rfl rfl 9 (by decide) lkf62 (fun _ h9 => h9) rfl dX7_noRow_1 ?_
  obtain ⟨z1, hz1, h⟩ := bd_some h
  refine pR_V (As := []) (rest := []) (wr := (tX7 ad (X 6) ++ (wX5 cA (ad 0) (X 0) ++ (wX2 cA (ad 1) (X 1) ++ (wX6 cA (ad 2) (X 2) ++ (wX6 cA (ad 3) (X 3) ++ (wX6 cA (ad 4) (X 4) ++ (wX6 cA (ad 5) (X 5) ++ (wX1 cA (ad 7) (X 7) ++ (wX0 cA (ad 8) (ad 2 0) (X 8) ++ (wX3 cA (ad 10) (X 10) ++ (wX3 cA (ad 11) (X 11))))))))))))) ⟨hx, hb, hml, hown, hts⟩ (c_X4_size l D cA (ad 9) (X 9)  z1 hz1) (cwV 0 hts gX7_noRow_X4_size rfl rfl rfl hd_X4_size ⟨(Nat.le_of_ble_eq_true rfl), (Nat.le_of_ble_eq_true rfl)⟩) (recvK hK (P_left (wc := wX4 cA (ad 9) (X 9)) (R := (tX7 ad (X 6) ++ (wX5 cA (ad 0) (X 0) ++ (wX2 cA (ad 1) (X 1) ++ (wX6 cA (ad 2) (X 2) ++ (wX6 cA (ad 3) (X 3) ++ (wX6 cA (ad 4) (X 4) ++ (wX6 cA (ad 5) (X 5) ++ (wX1 cA (ad 7) (X 7) ++ (wX0 cA (ad 8) (ad 2 0) (X 8) ++ (wX3 cA (ad 10) (X 10) ++ (wX3 cA (ad 11) (X 11))))))))))))) (perm_of (fun c hc => by unfold wX7 wX7b; simp only [hc]; omega)) hP) 0 4 rfl rfl) hK hP (perm_of (fun c hc => by unfold wX7 wX7b; simp only [hc]; omega)) rfl hl.1 rfl (Nat.le_of_ble_eq_true rfl) dX7_noRow_4 ⟨(Nat.le_of_ble_eq_true rfl), (Nat.le_of_ble_eq_true rfl)⟩ ?_
  refine lv_istore_n (lv' := [(1, .int z1), (0, .ref (ad 6 0))]) hx hb dX7_noRow_7 rfl hl (by decide) rfl (fun ls hl => ?_)
  refine lv_aload_n hx hb dX7_noRow_8 rfl (lv_at hl 1 rfl) ?_
  refine va_get (D := D) (ci := 7) (v := .ref (ad 9 0)) (C := RX7) (T := TX7) (N := 12) hx hb hts hinX7 hown hK.1 hP 0 rfl rfl 9 (by decide) lkf62 (fun _ h9 => h9) rfl dX7_noRow_9 ?_
  obtain ⟨z2, hz2, h⟩ := bd_some h
  refine pV_V (As := []) (rest := []) (wr := (tX7 ad (X 6) ++ (wX5 cA (ad 0) (X 0) ++ (wX2 cA (ad 1) (X 1) ++ (wX6 cA (ad 2) (X 2) ++ (wX6 cA (ad 3) (X 3) ++ (wX6 cA (ad 4) (X 4) ++ (wX6 cA (ad 5) (X 5) ++ (wX1 cA (ad 7) (X 7) ++ (wX0 cA (ad 8) (ad 2 0) (X 8) ++ (wX3 cA (ad 10) (X 10) ++ (wX3 cA (ad 11) (X 11))))))))))))) (wn := (wX7 cA ad (sX X 9 z2))) ⟨hx, hb, hml, hown, hts⟩ (c_X4_empty l D cA (ad 9) (X 9)   z2 hz2) (cwV 0 hts gX7_noRow_X4_empty rfl rfl rfl hd_X4_empty ⟨(Nat.le_of_ble_eq_true rfl), (Nat.le_of_ble_eq_true rfl)⟩) (recvK hK (P_left (wc := wX4 cA (ad 9) (X 9)) (R := (tX7 ad (X 6) ++ (wX5 cA (ad 0) (X 0) ++ (wX2 cA (ad 1) (X 1) ++ (wX6 cA (ad 2) (X 2) ++ (wX6 cA (ad 3) (X 3) ++ (wX6 cA (ad 4) (X 4) ++ (wX6 cA (ad 5) (X 5) ++ (wX1 cA (ad 7) (X 7) ++ (wX0 cA (ad 8) (ad 2 0) (X 8) ++ (wX3 cA (ad 10) (X 10) ++ (wX3 cA (ad 11) (X 11))))))))))))) (perm_of (fun c hc => by unfold wX7 wX7b; simp only [hc]; omega)) hP) 0 4 rfl rfl) hK hP hD hS hA (perm_of (fun c hc => by unfold wX7 wX7b; simp only [hc]; omega)) (perm_of (fun c hc => by rw [show wX7 cA ad (sX X 9 z2) = wX7b cA ad (X 0) (X 1) (X 2) (X 3) (X 4) (X 5) (X 6) (X 7) (X 8) z2 (X 10) (X 11) from rfl]; unfold wX7b; simp only [hc]; omega)) rfl hl.1 rfl (Nat.le_of_ble_eq_true rfl) dX7_noRow_12 ⟨(Nat.le_of_ble_eq_true rfl), (Nat.le_of_ble_eq_true rfl)⟩ (fun H locs hP hD hS => ?_)
  obtain ⟨s3, es3⟩ : ∃ z, z = sX X 9 z2 := ⟨_, rfl⟩
  rw [← es3] at hP hD
  have h := nm_ap es3 h
  refine lv_iload_n hx hb dX7_noRow_15 rfl (lv_at hl 0 rfl) ?_
  cases h
  exact hend _ _ _ _ hP hD hS dX7_noRow_16
abbrev rmX7_judge : Room := ({ frames := 3, cells := 0, slots := 0, locals := 66 } : Room)
set_option maxHeartbeats 4000000 in
set_option maxRecDepth 100000 in
theorem c_X7_judge (l : Launch) (D : va_G) (cA : ClassId) (ad : (Nat → Nat → Nat)) (X : (Nat → Ob)) (r : Int32) (h : f_X7_judge X = some r) : ConR l yX7_judge wsX7_judge rmX7_judge D cA [.ref (ad 6 0)] (wX7 cA ad X) r := by
  refine ConR.enter (cc := cX7_judge) (maxL := 1) (by decide) rfl (Nat.le_of_ble_eq_true rfl) ?_
  intro p e s m args below meth c Q hx hb hml hown hts hK hP  hend ls hl
  have hl : lv_has ls 1 [(0, .ref (ad 6 0))] := hl
  unfold f_X7_judge at h
  have lkf62 := hts (.fieldLink RX7 62 "TiedToTown" "row" "LTiedToTown$Row;") (List.mem_of_getElem? (i := 1) rfl)
  have hinX7 : ∀ w ∈ wsX70, w ∈ wsX7_judge := fun w h => List.mem_cons_of_mem _ (List.mem_append_left _ (List.mem_append_left _ (List.mem_append_right _ h)))
  have lkf26 := hts (.fieldLink RX7 26 "TiedToTown" "town" "LTiedToTown$Town;") (List.mem_of_getElem? (i := 2) rfl)
  refine lv_aload_n hx hb dX7_judge_0 rfl (lv_at hl 0 rfl) ?_
  refine va_get (D := D) (ci := 7) (v := .ref (ad 9 0)) (C := RX7) (T := TX7) (N := 12) hx hb hts hinX7 hown hK.1 hP 0 rfl rfl 9 (by decide) lkf62 (fun _ h9 => h9) rfl dX7_judge_1 ?_
  refine lv_aload_n hx hb dX7_judge_4 rfl (lv_at hl 0 rfl) ?_
  refine va_get (D := D) (ci := 7) (v := .ref (ad 2 0)) (C := RX7) (T := TX7) (N := 12) hx hb hts hinX7 hown hK.1 hP 0 rfl rfl 2 (by decide) lkf26 (fun _ h9 => h9) rfl dX7_judge_5 ?_
  obtain ⟨z1, hz1, h⟩ := bd_some h
  refine pR_V (As := [.ref (ad 2 0)]) (rest := []) (wr := (tX7 ad (X 6) ++ (wX5 cA (ad 0) (X 0) ++ (wX2 cA (ad 1) (X 1) ++ (wX6 cA (ad 3) (X 3) ++ (wX6 cA (ad 4) (X 4) ++ (wX6 cA (ad 5) (X 5) ++ (wX1 cA (ad 7) (X 7) ++ (wX0 cA (ad 8) (ad 2 0) (X 8) ++ (wX3 cA (ad 10) (X 10) ++ (wX3 cA (ad 11) (X 11)))))))))))) ⟨hx, hb, hml, hown, hts⟩ (c_X4_firstWrong l D cA (ad 9) (X 9) (ad 2) (X 2)  z1 hz1) (cwV 1 hts gX7_judge_X4_firstWrong rfl rfl rfl hd_X4_firstWrong ⟨(Nat.le_of_ble_eq_true rfl), (Nat.le_of_ble_eq_true rfl)⟩) (recvK hK (P_left (wc := wX4 cA (ad 9) (X 9)) (R := (tX7 ad (X 6) ++ (wX5 cA (ad 0) (X 0) ++ (wX2 cA (ad 1) (X 1) ++ (wX6 cA (ad 2) (X 2) ++ (wX6 cA (ad 3) (X 3) ++ (wX6 cA (ad 4) (X 4) ++ (wX6 cA (ad 5) (X 5) ++ (wX1 cA (ad 7) (X 7) ++ (wX0 cA (ad 8) (ad 2 0) (X 8) ++ (wX3 cA (ad 10) (X 10) ++ (wX3 cA (ad 11) (X 11))))))))))))) (perm_of (fun c hc => by unfold wX7 wX7b; simp only [hc]; omega)) hP) 0 4 rfl rfl) hK hP (perm_of (fun c hc => by unfold wX7 wX7b; simp only [hc]; omega)) rfl hl.1 rfl (Nat.le_of_ble_eq_true rfl) dX7_judge_8 ⟨(Nat.le_of_ble_eq_true rfl), (Nat.le_of_ble_eq_true rfl)⟩ ?_
  cases h
  exact hend _ _ dX7_judge_11
abbrev rmX7_ropeAt : Room := ({ frames := 0, cells := 0, slots := 0, locals := 0 } : Room)
set_option maxHeartbeats 4000000 in
set_option maxRecDepth 100000 in
theorem c_X7_ropeAt (l : Launch) (D : va_G) (cA : ClassId) (ad : (Nat → Nat → Nat)) (X : (Nat → Ob)) (x1 : Int32) (r : Nat) (h : f_X7_ropeAt X x1 = some r) : ConA l yX7_ropeAt wsX7_ropeAt rmX7_ropeAt D cA [.ref (ad 6 0), .int x1] (wX7 cA ad X) (ad r 0) := by
  refine ConA.enter (cc := cX7_ropeAt) (maxL := 2) (by decide) rfl (Nat.le_of_ble_eq_true rfl) ?_
  intro p e s m args below meth c Q hx hb hml hown hts hK hP  hend ls hl
  have hl : lv_has ls 2 [(0, .ref (ad 6 0)), (1, .int x1)] := hl
  unfold f_X7_ropeAt at h
  have lkf73 := hts (.fieldLink RX7 73 "TiedToTown" "rightRope" "LTiedToTown$Rope;") (List.mem_of_getElem? (i := 2) rfl)
  have hinX7 : ∀ w ∈ wsX70, w ∈ wsX7_ropeAt := fun w h => List.mem_cons_of_mem _ (List.mem_append_right _ h)
  have lkf69 := hts (.fieldLink RX7 69 "TiedToTown" "leftRope" "LTiedToTown$Rope;") (List.mem_of_getElem? (i := 1) rfl)
  refine lv_iload_n hx hb dX7_ropeAt_0 rfl (lv_at hl 1 rfl) ?_
  refine lv_if_ne (tgt := 11) hx hb dX7_ropeAt_1 (by decide) (fun hc => ?_) (fun hc => ?_)
  · have h := if_f hc h
    refine lv_aload_n hx hb dX7_ropeAt_11 rfl (lv_at hl 0 rfl) ?_
    refine va_get (D := D) (ci := 7) (v := .ref (ad 11 0)) (C := RX7) (T := TX7) (N := 12) hx hb hts hinX7 hown hK.1 hP 0 rfl rfl 11 (by decide) lkf73 (fun _ h9 => h9) rfl dX7_ropeAt_12 ?_
    cases h
    exact hend _ _ dX7_ropeAt_15
  · have h := if_t hc h
    refine lv_aload_n hx hb dX7_ropeAt_4 rfl (lv_at hl 0 rfl) ?_
    refine va_get (D := D) (ci := 7) (v := .ref (ad 10 0)) (C := RX7) (T := TX7) (N := 12) hx hb hts hinX7 hown hK.1 hP 0 rfl rfl 10 (by decide) lkf69 (fun _ h9 => h9) rfl dX7_ropeAt_5 ?_
    refine lv_goto (tgt := 15) hx hb dX7_ropeAt_8 (by decide) ?_
    cases h
    exact hend _ _ dX7_ropeAt_15
abbrev rmX7_cross : Room := ({ frames := 2, cells := 0, slots := 0, locals := 42 } : Room)
set_option maxHeartbeats 4000000 in
set_option maxRecDepth 100000 in
theorem c_X7_cross (l : Launch) (D : va_G) (cA : ClassId) (ad : (Nat → Nat → Nat)) (X : (Nat → Ob)) (x1 : Int32) (x2 : Int32) (r : Int32) (X_ : (Nat → Ob)) (h : f_X7_cross X x1 x2 = some (r, X_)) : ConW l yX7_cross wsX7_cross rmX7_cross D cA [.ref (ad 6 0), .int x1, .int x2] (wX7 cA ad X) r (wX7 cA ad X_) := by
  refine ConW.enter (cc := cX7_cross) (maxL := 4) (by decide) rfl (Nat.le_of_ble_eq_true rfl) ?_
  intro p e s m args below meth c Q A hx hb hml hown hts hK hP hD hA hend ls hl
  have hS : va_S A s.heap s.heap [] := va_S.rf
  have hl : lv_has ls 4 [(0, .ref (ad 6 0)), (1, .int x1), (2, .int x2)] := hl
  unfold f_X7_cross at h
  refine lv_iload_n hx hb dX7_cross_0 rfl (lv_at hl 1 rfl) ?_
  obtain ⟨z1, hz1, h⟩ := bd_some h
  refine cR_S (As := [.int x1]) (rest := []) ⟨hx, hb, hml, hown, hts⟩ (c_X7_isRope l D cA  x1 z1 hz1) (va_cwS 1 hts gX7_cross_X7_isRope rfl rfl rfl hd_X7_isRope.2 ⟨(Nat.le_of_ble_eq_true rfl), (Nat.le_of_ble_eq_true rfl)⟩) hK hP [] rfl rfl hl.1 rfl (Nat.le_of_ble_eq_true rfl) dX7_cross_1 ⟨(Nat.le_of_ble_eq_true rfl), (Nat.le_of_ble_eq_true rfl)⟩ ?_
  refine lv_if_eq (tgt := 17) hx hb dX7_cross_4 (by decide) (fun hc => ?_) (fun hc => ?_)
  · have h := if_t hc h
    refine lv_iconst (v := (-1 : Int32)) hx hb dX7_cross_17 (by decide) ?_
    cases h
    exact hend _ _ _ _ hP hD hS dX7_cross_18
  · have h := if_f hc h
    refine lv_iload_n hx hb dX7_cross_7 rfl (lv_at hl 2 rfl) ?_
    refine lv_if_lt (tgt := 17) hx hb dX7_cross_8 (by decide) (fun hc => ?_) (fun hc => ?_)
    · have h := if_t hc h
      refine lv_iconst (v := (-1 : Int32)) hx hb dX7_cross_17 (by decide) ?_
      cases h
      exact hend _ _ _ _ hP hD hS dX7_cross_18
    · have h := if_f hc h
      refine lv_iload_n hx hb dX7_cross_11 rfl (lv_at hl 2 rfl) ?_
      refine lv_bipush (v := (8 : Int32)) hx hb dX7_cross_12 (by decide) ?_
      refine lv_icmp_lt (tgt := 19) hx hb dX7_cross_14 (by decide) (fun hc => ?_) (fun hc => ?_)
      · have h := if_t hc h
        refine lv_aload_n hx hb dX7_cross_19 rfl (lv_at hl 0 rfl) ?_
        refine lv_iload_n hx hb dX7_cross_20 rfl (lv_at hl 1 rfl) ?_
        obtain ⟨z2, hz2, h⟩ := bd_some h
        refine pA_V (As := [.int x1]) (rest := []) (wr := ([] : va_W)) ⟨hx, hb, hml, hown, hts⟩ (c_X7_ropeAt l D cA ad X x1 z2 hz2) (cwV 1 hts gX7_cross_X7_ropeAt rfl rfl rfl hd_X7_ropeAt ⟨(Nat.le_of_ble_eq_true rfl), (Nat.le_of_ble_eq_true rfl)⟩) (recvK hK hP 0 7 rfl rfl) hK hP perm_nil rfl hl.1 rfl (Nat.le_of_ble_eq_true rfl) dX7_cross_21 ⟨(Nat.le_of_ble_eq_true rfl), (Nat.le_of_ble_eq_true rfl)⟩ ?_
        by_cases hc3 : z2 = 10
        · subst hc3
          have h := if_t rfl h
          refine lv_astore_n (lv' := [(3, .ref (ad 10 0)), (0, .ref (ad 6 0)), (1, .int x1), (2, .int x2)]) hx hb dX7_cross_24 rfl hl (by decide) rfl (fun ls hl => ?_)
          refine lv_aload_n hx hb dX7_cross_25 rfl (lv_at hl 0 rfl) ?_
          obtain ⟨z4, hz4, h⟩ := bd_some h
          refine pR_V (As := []) (rest := []) (wr := (tX7 ad (X 6) ++ (wX5 cA (ad 0) (X 0) ++ (wX2 cA (ad 1) (X 1) ++ (wX6 cA (ad 2) (X 2) ++ (wX6 cA (ad 3) (X 3) ++ (wX6 cA (ad 4) (X 4) ++ (wX6 cA (ad 5) (X 5) ++ (wX1 cA (ad 7) (X 7) ++ (wX0 cA (ad 8) (ad 2 0) (X 8) ++ (wX4 cA (ad 9) (X 9) ++ (wX3 cA (ad 11) (X 11))))))))))))) ⟨hx, hb, hml, hown, hts⟩ (c_X3_size l D cA (ad 10) (X 10)  z4 hz4) (cwV 0 hts gX7_cross_X3_size rfl rfl rfl hd_X3_size ⟨(Nat.le_of_ble_eq_true rfl), (Nat.le_of_ble_eq_true rfl)⟩) (recvK hK (P_left (wc := wX3 cA (ad 10) (X 10)) (R := (tX7 ad (X 6) ++ (wX5 cA (ad 0) (X 0) ++ (wX2 cA (ad 1) (X 1) ++ (wX6 cA (ad 2) (X 2) ++ (wX6 cA (ad 3) (X 3) ++ (wX6 cA (ad 4) (X 4) ++ (wX6 cA (ad 5) (X 5) ++ (wX1 cA (ad 7) (X 7) ++ (wX0 cA (ad 8) (ad 2 0) (X 8) ++ (wX4 cA (ad 9) (X 9) ++ (wX3 cA (ad 11) (X 11))))))))))))) (perm_of (fun c hc => by unfold wX7 wX7b; simp only [hc]; omega)) hP) 0 3 rfl rfl) hK hP (perm_of (fun c hc => by unfold wX7 wX7b; simp only [hc]; omega)) rfl hl.1 rfl (Nat.le_of_ble_eq_true rfl) dX7_cross_26 ⟨(Nat.le_of_ble_eq_true rfl), (Nat.le_of_ble_eq_true rfl)⟩ ?_
          refine lv_bipush (v := (16 : Int32)) hx hb dX7_cross_29 (by decide) ?_
          refine lv_icmp_lt (tgt := 37) hx hb dX7_cross_31 (by decide) (fun hc => ?_) (fun hc => ?_)
          · have h := if_t hc h
            refine lv_aload_n hx hb dX7_cross_37 rfl (lv_at hl 0 rfl) ?_
            refine lv_iload_n hx hb dX7_cross_38 rfl (lv_at hl 3 rfl) ?_
            obtain ⟨z5, hz5, h⟩ := bd_some h
            refine pV_V (As := [.int x2]) (rest := []) (wr := (tX7 ad (X 6) ++ (wX5 cA (ad 0) (X 0) ++ (wX2 cA (ad 1) (X 1) ++ (wX6 cA (ad 2) (X 2) ++ (wX6 cA (ad 3) (X 3) ++ (wX6 cA (ad 4) (X 4) ++ (wX6 cA (ad 5) (X 5) ++ (wX1 cA (ad 7) (X 7) ++ (wX0 cA (ad 8) (ad 2 0) (X 8) ++ (wX4 cA (ad 9) (X 9) ++ (wX3 cA (ad 11) (X 11))))))))))))) (wn := (wX7 cA ad (sX X 10 z5))) ⟨hx, hb, hml, hown, hts⟩ (c_X3_append l D cA (ad 10) (X 10) x2  z5 hz5) (cwV 1 hts gX7_cross_X3_append rfl rfl rfl hd_X3_append ⟨(Nat.le_of_ble_eq_true rfl), (Nat.le_of_ble_eq_true rfl)⟩) (recvK hK (P_left (wc := wX3 cA (ad 10) (X 10)) (R := (tX7 ad (X 6) ++ (wX5 cA (ad 0) (X 0) ++ (wX2 cA (ad 1) (X 1) ++ (wX6 cA (ad 2) (X 2) ++ (wX6 cA (ad 3) (X 3) ++ (wX6 cA (ad 4) (X 4) ++ (wX6 cA (ad 5) (X 5) ++ (wX1 cA (ad 7) (X 7) ++ (wX0 cA (ad 8) (ad 2 0) (X 8) ++ (wX4 cA (ad 9) (X 9) ++ (wX3 cA (ad 11) (X 11))))))))))))) (perm_of (fun c hc => by unfold wX7 wX7b; simp only [hc]; omega)) hP) 0 3 rfl rfl) hK hP hD hS hA (perm_of (fun c hc => by unfold wX7 wX7b; simp only [hc]; omega)) (perm_of (fun c hc => by rw [show wX7 cA ad (sX X 10 z5) = wX7b cA ad (X 0) (X 1) (X 2) (X 3) (X 4) (X 5) (X 6) (X 7) (X 8) (X 9) z5 (X 11) from rfl]; unfold wX7b; simp only [hc]; omega)) rfl hl.1 rfl (Nat.le_of_ble_eq_true rfl) dX7_cross_39 ⟨(Nat.le_of_ble_eq_true rfl), (Nat.le_of_ble_eq_true rfl)⟩ (fun H locs hP hD hS => ?_)
            obtain ⟨s6, es6⟩ : ∃ z, z = sX X 10 z5 := ⟨_, rfl⟩
            rw [← es6] at hP hD
            have h := nm_ap es6 h
            refine lv_aload_n hx hb dX7_cross_42 rfl (lv_at hl 0 rfl) ?_
            obtain ⟨z7, hz7, h⟩ := bd_some h
            refine pR_V (As := []) (rest := []) (wr := (tX7 ad (s6 6) ++ (wX5 cA (ad 0) (s6 0) ++ (wX2 cA (ad 1) (s6 1) ++ (wX6 cA (ad 2) (s6 2) ++ (wX6 cA (ad 3) (s6 3) ++ (wX6 cA (ad 4) (s6 4) ++ (wX6 cA (ad 5) (s6 5) ++ (wX1 cA (ad 7) (s6 7) ++ (wX0 cA (ad 8) (ad 2 0) (s6 8) ++ (wX4 cA (ad 9) (s6 9) ++ (wX3 cA (ad 11) (s6 11))))))))))))) ⟨hx, hb, hml, hown, hts⟩ (c_X3_size l D cA (ad 10) (s6 10)  z7 hz7) (cwV 0 hts gX7_cross_X3_size rfl rfl rfl hd_X3_size ⟨(Nat.le_of_ble_eq_true rfl), (Nat.le_of_ble_eq_true rfl)⟩) (recvK hK (P_left (wc := wX3 cA (ad 10) (s6 10)) (R := (tX7 ad (s6 6) ++ (wX5 cA (ad 0) (s6 0) ++ (wX2 cA (ad 1) (s6 1) ++ (wX6 cA (ad 2) (s6 2) ++ (wX6 cA (ad 3) (s6 3) ++ (wX6 cA (ad 4) (s6 4) ++ (wX6 cA (ad 5) (s6 5) ++ (wX1 cA (ad 7) (s6 7) ++ (wX0 cA (ad 8) (ad 2 0) (s6 8) ++ (wX4 cA (ad 9) (s6 9) ++ (wX3 cA (ad 11) (s6 11))))))))))))) (perm_of (fun c hc => by unfold wX7 wX7b; simp only [hc]; omega)) hP) 0 3 rfl rfl) hK hP (perm_of (fun c hc => by unfold wX7 wX7b; simp only [hc]; omega)) rfl hl.1 rfl (Nat.le_of_ble_eq_true rfl) dX7_cross_43 ⟨(Nat.le_of_ble_eq_true rfl), (Nat.le_of_ble_eq_true rfl)⟩ ?_
            cases h
            exact hend _ _ _ _ hP hD hS dX7_cross_46
          · have h := if_f hc h
            refine lv_bipush (v := (-3 : Int32)) hx hb dX7_cross_34 (by decide) ?_
            cases h
            exact hend _ _ _ _ hP hD hS dX7_cross_36
        have h := if_f hc3 h
        by_cases hc8 : z2 = 11
        · subst hc8
          have h := if_t rfl h
          refine lv_astore_n (lv' := [(3, .ref (ad 11 0)), (0, .ref (ad 6 0)), (1, .int x1), (2, .int x2)]) hx hb dX7_cross_24 rfl hl (by decide) rfl (fun ls hl => ?_)
          refine lv_aload_n hx hb dX7_cross_25 rfl (lv_at hl 0 rfl) ?_
          obtain ⟨z9, hz9, h⟩ := bd_some h
          refine pR_V (As := []) (rest := []) (wr := (tX7 ad (X 6) ++ (wX5 cA (ad 0) (X 0) ++ (wX2 cA (ad 1) (X 1) ++ (wX6 cA (ad 2) (X 2) ++ (wX6 cA (ad 3) (X 3) ++ (wX6 cA (ad 4) (X 4) ++ (wX6 cA (ad 5) (X 5) ++ (wX1 cA (ad 7) (X 7) ++ (wX0 cA (ad 8) (ad 2 0) (X 8) ++ (wX4 cA (ad 9) (X 9) ++ (wX3 cA (ad 10) (X 10))))))))))))) ⟨hx, hb, hml, hown, hts⟩ (c_X3_size l D cA (ad 11) (X 11)  z9 hz9) (cwV 0 hts gX7_cross_X3_size rfl rfl rfl hd_X3_size ⟨(Nat.le_of_ble_eq_true rfl), (Nat.le_of_ble_eq_true rfl)⟩) (recvK hK (P_left (wc := wX3 cA (ad 11) (X 11)) (R := (tX7 ad (X 6) ++ (wX5 cA (ad 0) (X 0) ++ (wX2 cA (ad 1) (X 1) ++ (wX6 cA (ad 2) (X 2) ++ (wX6 cA (ad 3) (X 3) ++ (wX6 cA (ad 4) (X 4) ++ (wX6 cA (ad 5) (X 5) ++ (wX1 cA (ad 7) (X 7) ++ (wX0 cA (ad 8) (ad 2 0) (X 8) ++ (wX4 cA (ad 9) (X 9) ++ (wX3 cA (ad 10) (X 10))))))))))))) (perm_of (fun c hc => by unfold wX7 wX7b; simp only [hc]; omega)) hP) 0 3 rfl rfl) hK hP (perm_of (fun c hc => by unfold wX7 wX7b; simp only [hc]; omega)) rfl hl.1 rfl (Nat.le_of_ble_eq_true rfl) dX7_cross_26 ⟨(Nat.le_of_ble_eq_true rfl), (Nat.le_of_ble_eq_true rfl)⟩ ?_
          refine lv_bipush (v := (16 : Int32)) hx hb dX7_cross_29 (by decide) ?_
          refine lv_icmp_lt (tgt := 37) hx hb dX7_cross_31 (by decide) (fun hc => ?_) (fun hc => ?_)
          · have h := if_t hc h
            refine lv_aload_n hx hb dX7_cross_37 rfl (lv_at hl 0 rfl) ?_
            refine lv_iload_n hx hb dX7_cross_38 rfl (lv_at hl 3 rfl) ?_
            obtain ⟨z10, hz10, h⟩ := bd_some h
            refine pV_V (As := [.int x2]) (rest := []) (wr := (tX7 ad (X 6) ++ (wX5 cA (ad 0) (X 0) ++ (wX2 cA (ad 1) (X 1) ++ (wX6 cA (ad 2) (X 2) ++ (wX6 cA (ad 3) (X 3) ++ (wX6 cA (ad 4) (X 4) ++ (wX6 cA (ad 5) (X 5) ++ (wX1 cA (ad 7) (X 7) ++ (wX0 cA (ad 8) (ad 2 0) (X 8) ++ (wX4 cA (ad 9) (X 9) ++ (wX3 cA (ad 10) (X 10))))))))))))) (wn := (wX7 cA ad (sX X 11 z10))) ⟨hx, hb, hml, hown, hts⟩ (c_X3_append l D cA (ad 11) (X 11) x2  z10 hz10) (cwV 1 hts gX7_cross_X3_append rfl rfl rfl hd_X3_append ⟨(Nat.le_of_ble_eq_true rfl), (Nat.le_of_ble_eq_true rfl)⟩) (recvK hK (P_left (wc := wX3 cA (ad 11) (X 11)) (R := (tX7 ad (X 6) ++ (wX5 cA (ad 0) (X 0) ++ (wX2 cA (ad 1) (X 1) ++ (wX6 cA (ad 2) (X 2) ++ (wX6 cA (ad 3) (X 3) ++ (wX6 cA (ad 4) (X 4) ++ (wX6 cA (ad 5) (X 5) ++ (wX1 cA (ad 7) (X 7) ++ (wX0 cA (ad 8) (ad 2 0) (X 8) ++ (wX4 cA (ad 9) (X 9) ++ (wX3 cA (ad 10) (X 10))))))))))))) (perm_of (fun c hc => by unfold wX7 wX7b; simp only [hc]; omega)) hP) 0 3 rfl rfl) hK hP hD hS hA (perm_of (fun c hc => by unfold wX7 wX7b; simp only [hc]; omega)) (perm_of (fun c hc => by rw [show wX7 cA ad (sX X 11 z10) = wX7b cA ad (X 0) (X 1) (X 2) (X 3) (X 4) (X 5) (X 6) (X 7) (X 8) (X 9) (X 10) z10 from rfl]; unfold wX7b; simp only [hc]; omega)) rfl hl.1 rfl (Nat.le_of_ble_eq_true rfl) dX7_cross_39 ⟨(Nat.le_of_ble_eq_true rfl), (Nat.le_of_ble_eq_true rfl)⟩ (fun H locs hP hD hS => ?_)
            obtain ⟨s11, es11⟩ : ∃ z, z = sX X 11 z10 := ⟨_, rfl⟩
            rw [← es11] at hP hD
            have h := nm_ap es11 h
            refine lv_aload_n hx hb dX7_cross_42 rfl (lv_at hl 0 rfl) ?_
            obtain ⟨z12, hz12, h⟩ := bd_some h
            refine pR_V (As := []) (rest := []) (wr := (tX7 ad (s11 6) ++ (wX5 cA (ad 0) (s11 0) ++ (wX2 cA (ad 1) (s11 1) ++ (wX6 cA (ad 2) (s11 2) ++ (wX6 cA (ad 3) (s11 3) ++ (wX6 cA (ad 4) (s11 4) ++ (wX6 cA (ad 5) (s11 5) ++ (wX1 cA (ad 7) (s11 7) ++ (wX0 cA (ad 8) (ad 2 0) (s11 8) ++ (wX4 cA (ad 9) (s11 9) ++ (wX3 cA (ad 10) (s11 10))))))))))))) ⟨hx, hb, hml, hown, hts⟩ (c_X3_size l D cA (ad 11) (s11 11)  z12 hz12) (cwV 0 hts gX7_cross_X3_size rfl rfl rfl hd_X3_size ⟨(Nat.le_of_ble_eq_true rfl), (Nat.le_of_ble_eq_true rfl)⟩) (recvK hK (P_left (wc := wX3 cA (ad 11) (s11 11)) (R := (tX7 ad (s11 6) ++ (wX5 cA (ad 0) (s11 0) ++ (wX2 cA (ad 1) (s11 1) ++ (wX6 cA (ad 2) (s11 2) ++ (wX6 cA (ad 3) (s11 3) ++ (wX6 cA (ad 4) (s11 4) ++ (wX6 cA (ad 5) (s11 5) ++ (wX1 cA (ad 7) (s11 7) ++ (wX0 cA (ad 8) (ad 2 0) (s11 8) ++ (wX4 cA (ad 9) (s11 9) ++ (wX3 cA (ad 10) (s11 10))))))))))))) (perm_of (fun c hc => by unfold wX7 wX7b; simp only [hc]; omega)) hP) 0 3 rfl rfl) hK hP (perm_of (fun c hc => by unfold wX7 wX7b; simp only [hc]; omega)) rfl hl.1 rfl (Nat.le_of_ble_eq_true rfl) dX7_cross_43 ⟨(Nat.le_of_ble_eq_true rfl), (Nat.le_of_ble_eq_true rfl)⟩ ?_
            cases h
            exact hend _ _ _ _ hP hD hS dX7_cross_46
          · have h := if_f hc h
            refine lv_bipush (v := (-3 : Int32)) hx hb dX7_cross_34 (by decide) ?_
            cases h
            exact hend _ _ _ _ hP hD hS dX7_cross_36
        have h := if_f hc8 h
        cases h
      · have h := if_f hc h
        refine lv_iconst (v := (-1 : Int32)) hx hb dX7_cross_17 (by decide) ?_
        cases h
        exact hend _ _ _ _ hP hD hS dX7_cross_18
abbrev rmX7_smooth : Room := ({ frames := 1, cells := 0, slots := 0, locals := 21 } : Room)
set_option maxHeartbeats 4000000 in
set_option maxRecDepth 100000 in
theorem c_X7_smooth (l : Launch) (D : va_G) (cA : ClassId) (ad : (Nat → Nat → Nat)) (X : (Nat → Ob)) (x1 : Int32) (r : Int32) (X_ : (Nat → Ob)) (h : f_X7_smooth X x1 = some (r, X_)) : ConW l yX7_smooth wsX7_smooth rmX7_smooth D cA [.ref (ad 6 0), .int x1] (wX7 cA ad X) r (wX7 cA ad X_) := by
  refine ConW.enter (cc := cX7_smooth) (maxL := 4) (by decide) rfl (Nat.le_of_ble_eq_true rfl) ?_
  intro p e s m args below meth c Q A hx hb hml hown hts hK hP hD hA hend ls hl
  have hS : va_S A s.heap s.heap [] := va_S.rf
  have hl : lv_has ls 4 [(0, .ref (ad 6 0)), (1, .int x1)] := hl
  unfold f_X7_smooth at h
  refine lv_iload_n hx hb dX7_smooth_0 rfl (lv_at hl 1 rfl) ?_
  obtain ⟨z1, hz1, h⟩ := bd_some h
  refine cR_S (As := [.int x1]) (rest := []) ⟨hx, hb, hml, hown, hts⟩ (c_X7_isRope l D cA  x1 z1 hz1) (va_cwS 1 hts gX7_smooth_X7_isRope rfl rfl rfl hd_X7_isRope.2 ⟨(Nat.le_of_ble_eq_true rfl), (Nat.le_of_ble_eq_true rfl)⟩) hK hP [] rfl rfl hl.1 rfl (Nat.le_of_ble_eq_true rfl) dX7_smooth_1 ⟨(Nat.le_of_ble_eq_true rfl), (Nat.le_of_ble_eq_true rfl)⟩ ?_
  refine lv_if_ne (tgt := 9) hx hb dX7_smooth_4 (by decide) (fun hc => ?_) (fun hc => ?_)
  · have h := if_f hc h
    refine lv_aload_n hx hb dX7_smooth_9 rfl (lv_at hl 0 rfl) ?_
    refine lv_iload_n hx hb dX7_smooth_10 rfl (lv_at hl 1 rfl) ?_
    obtain ⟨z2, hz2, h⟩ := bd_some h
    refine pA_V (As := [.int x1]) (rest := []) (wr := ([] : va_W)) ⟨hx, hb, hml, hown, hts⟩ (c_X7_ropeAt l D cA ad X x1 z2 hz2) (cwV 1 hts gX7_smooth_X7_ropeAt rfl rfl rfl hd_X7_ropeAt ⟨(Nat.le_of_ble_eq_true rfl), (Nat.le_of_ble_eq_true rfl)⟩) (recvK hK hP 0 7 rfl rfl) hK hP perm_nil rfl hl.1 rfl (Nat.le_of_ble_eq_true rfl) dX7_smooth_11 ⟨(Nat.le_of_ble_eq_true rfl), (Nat.le_of_ble_eq_true rfl)⟩ ?_
    by_cases hc3 : z2 = 10
    · subst hc3
      have h := if_t rfl h
      refine lv_astore_n (lv' := [(2, .ref (ad 10 0)), (0, .ref (ad 6 0)), (1, .int x1)]) hx hb dX7_smooth_14 rfl hl (by decide) rfl (fun ls hl => ?_)
      refine lv_aload_n hx hb dX7_smooth_15 rfl (lv_at hl 0 rfl) ?_
      obtain ⟨z4, hz4, h⟩ := bd_some h
      refine pR_V (As := []) (rest := []) (wr := (tX7 ad (X 6) ++ (wX5 cA (ad 0) (X 0) ++ (wX2 cA (ad 1) (X 1) ++ (wX6 cA (ad 2) (X 2) ++ (wX6 cA (ad 3) (X 3) ++ (wX6 cA (ad 4) (X 4) ++ (wX6 cA (ad 5) (X 5) ++ (wX1 cA (ad 7) (X 7) ++ (wX0 cA (ad 8) (ad 2 0) (X 8) ++ (wX4 cA (ad 9) (X 9) ++ (wX3 cA (ad 11) (X 11))))))))))))) ⟨hx, hb, hml, hown, hts⟩ (c_X3_size l D cA (ad 10) (X 10)  z4 hz4) (cwV 0 hts gX7_smooth_X3_size rfl rfl rfl hd_X3_size ⟨(Nat.le_of_ble_eq_true rfl), (Nat.le_of_ble_eq_true rfl)⟩) (recvK hK (P_left (wc := wX3 cA (ad 10) (X 10)) (R := (tX7 ad (X 6) ++ (wX5 cA (ad 0) (X 0) ++ (wX2 cA (ad 1) (X 1) ++ (wX6 cA (ad 2) (X 2) ++ (wX6 cA (ad 3) (X 3) ++ (wX6 cA (ad 4) (X 4) ++ (wX6 cA (ad 5) (X 5) ++ (wX1 cA (ad 7) (X 7) ++ (wX0 cA (ad 8) (ad 2 0) (X 8) ++ (wX4 cA (ad 9) (X 9) ++ (wX3 cA (ad 11) (X 11))))))))))))) (perm_of (fun c hc => by unfold wX7 wX7b; simp only [hc]; omega)) hP) 0 3 rfl rfl) hK hP (perm_of (fun c hc => by unfold wX7 wX7b; simp only [hc]; omega)) rfl hl.1 rfl (Nat.le_of_ble_eq_true rfl) dX7_smooth_16 ⟨(Nat.le_of_ble_eq_true rfl), (Nat.le_of_ble_eq_true rfl)⟩ ?_
      refine lv_istore_n (lv' := [(3, .int z4), (2, .ref (ad 10 0)), (0, .ref (ad 6 0)), (1, .int x1)]) hx hb dX7_smooth_19 rfl hl (by decide) rfl (fun ls hl => ?_)
      refine lv_aload_n hx hb dX7_smooth_20 rfl (lv_at hl 1 rfl) ?_
      obtain ⟨z5, hz5, h⟩ := bd_some h
      refine pV_V (As := []) (rest := []) (wr := (tX7 ad (X 6) ++ (wX5 cA (ad 0) (X 0) ++ (wX2 cA (ad 1) (X 1) ++ (wX6 cA (ad 2) (X 2) ++ (wX6 cA (ad 3) (X 3) ++ (wX6 cA (ad 4) (X 4) ++ (wX6 cA (ad 5) (X 5) ++ (wX1 cA (ad 7) (X 7) ++ (wX0 cA (ad 8) (ad 2 0) (X 8) ++ (wX4 cA (ad 9) (X 9) ++ (wX3 cA (ad 11) (X 11))))))))))))) (wn := (wX7 cA ad (sX X 10 z5))) ⟨hx, hb, hml, hown, hts⟩ (c_X3_empty l D cA (ad 10) (X 10)   z5 hz5) (cwV 0 hts gX7_smooth_X3_empty rfl rfl rfl hd_X3_empty ⟨(Nat.le_of_ble_eq_true rfl), (Nat.le_of_ble_eq_true rfl)⟩) (recvK hK (P_left (wc := wX3 cA (ad 10) (X 10)) (R := (tX7 ad (X 6) ++ (wX5 cA (ad 0) (X 0) ++ (wX2 cA (ad 1) (X 1) ++ (wX6 cA (ad 2) (X 2) ++ (wX6 cA (ad 3) (X 3) ++ (wX6 cA (ad 4) (X 4) ++ (wX6 cA (ad 5) (X 5) ++ (wX1 cA (ad 7) (X 7) ++ (wX0 cA (ad 8) (ad 2 0) (X 8) ++ (wX4 cA (ad 9) (X 9) ++ (wX3 cA (ad 11) (X 11))))))))))))) (perm_of (fun c hc => by unfold wX7 wX7b; simp only [hc]; omega)) hP) 0 3 rfl rfl) hK hP hD hS hA (perm_of (fun c hc => by unfold wX7 wX7b; simp only [hc]; omega)) (perm_of (fun c hc => by rw [show wX7 cA ad (sX X 10 z5) = wX7b cA ad (X 0) (X 1) (X 2) (X 3) (X 4) (X 5) (X 6) (X 7) (X 8) (X 9) z5 (X 11) from rfl]; unfold wX7b; simp only [hc]; omega)) rfl hl.1 rfl (Nat.le_of_ble_eq_true rfl) dX7_smooth_21 ⟨(Nat.le_of_ble_eq_true rfl), (Nat.le_of_ble_eq_true rfl)⟩ (fun H locs hP hD hS => ?_)
      obtain ⟨s6, es6⟩ : ∃ z, z = sX X 10 z5 := ⟨_, rfl⟩
      rw [← es6] at hP hD
      have h := nm_ap es6 h
      refine lv_iload_n hx hb dX7_smooth_24 rfl (lv_at hl 0 rfl) ?_
      cases h
      exact hend _ _ _ _ hP hD hS dX7_smooth_25
    have h := if_f hc3 h
    by_cases hc7 : z2 = 11
    · subst hc7
      have h := if_t rfl h
      refine lv_astore_n (lv' := [(2, .ref (ad 11 0)), (0, .ref (ad 6 0)), (1, .int x1)]) hx hb dX7_smooth_14 rfl hl (by decide) rfl (fun ls hl => ?_)
      refine lv_aload_n hx hb dX7_smooth_15 rfl (lv_at hl 0 rfl) ?_
      obtain ⟨z8, hz8, h⟩ := bd_some h
      refine pR_V (As := []) (rest := []) (wr := (tX7 ad (X 6) ++ (wX5 cA (ad 0) (X 0) ++ (wX2 cA (ad 1) (X 1) ++ (wX6 cA (ad 2) (X 2) ++ (wX6 cA (ad 3) (X 3) ++ (wX6 cA (ad 4) (X 4) ++ (wX6 cA (ad 5) (X 5) ++ (wX1 cA (ad 7) (X 7) ++ (wX0 cA (ad 8) (ad 2 0) (X 8) ++ (wX4 cA (ad 9) (X 9) ++ (wX3 cA (ad 10) (X 10))))))))))))) ⟨hx, hb, hml, hown, hts⟩ (c_X3_size l D cA (ad 11) (X 11)  z8 hz8) (cwV 0 hts gX7_smooth_X3_size rfl rfl rfl hd_X3_size ⟨(Nat.le_of_ble_eq_true rfl), (Nat.le_of_ble_eq_true rfl)⟩) (recvK hK (P_left (wc := wX3 cA (ad 11) (X 11)) (R := (tX7 ad (X 6) ++ (wX5 cA (ad 0) (X 0) ++ (wX2 cA (ad 1) (X 1) ++ (wX6 cA (ad 2) (X 2) ++ (wX6 cA (ad 3) (X 3) ++ (wX6 cA (ad 4) (X 4) ++ (wX6 cA (ad 5) (X 5) ++ (wX1 cA (ad 7) (X 7) ++ (wX0 cA (ad 8) (ad 2 0) (X 8) ++ (wX4 cA (ad 9) (X 9) ++ (wX3 cA (ad 10) (X 10))))))))))))) (perm_of (fun c hc => by unfold wX7 wX7b; simp only [hc]; omega)) hP) 0 3 rfl rfl) hK hP (perm_of (fun c hc => by unfold wX7 wX7b; simp only [hc]; omega)) rfl hl.1 rfl (Nat.le_of_ble_eq_true rfl) dX7_smooth_16 ⟨(Nat.le_of_ble_eq_true rfl), (Nat.le_of_ble_eq_true rfl)⟩ ?_
      refine lv_istore_n (lv' := [(3, .int z8), (2, .ref (ad 11 0)), (0, .ref (ad 6 0)), (1, .int x1)]) hx hb dX7_smooth_19 rfl hl (by decide) rfl (fun ls hl => ?_)
      refine lv_aload_n hx hb dX7_smooth_20 rfl (lv_at hl 1 rfl) ?_
      obtain ⟨z9, hz9, h⟩ := bd_some h
      refine pV_V (As := []) (rest := []) (wr := (tX7 ad (X 6) ++ (wX5 cA (ad 0) (X 0) ++ (wX2 cA (ad 1) (X 1) ++ (wX6 cA (ad 2) (X 2) ++ (wX6 cA (ad 3) (X 3) ++ (wX6 cA (ad 4) (X 4) ++ (wX6 cA (ad 5) (X 5) ++ (wX1 cA (ad 7) (X 7) ++ (wX0 cA (ad 8) (ad 2 0) (X 8) ++ (wX4 cA (ad 9) (X 9) ++ (wX3 cA (ad 10) (X 10))))))))))))) (wn := (wX7 cA ad (sX X 11 z9))) ⟨hx, hb, hml, hown, hts⟩ (c_X3_empty l D cA (ad 11) (X 11)   z9 hz9) (cwV 0 hts gX7_smooth_X3_empty rfl rfl rfl hd_X3_empty ⟨(Nat.le_of_ble_eq_true rfl), (Nat.le_of_ble_eq_true rfl)⟩) (recvK hK (P_left (wc := wX3 cA (ad 11) (X 11)) (R := (tX7 ad (X 6) ++ (wX5 cA (ad 0) (X 0) ++ (wX2 cA (ad 1) (X 1) ++ (wX6 cA (ad 2) (X 2) ++ (wX6 cA (ad 3) (X 3) ++ (wX6 cA (ad 4) (X 4) ++ (wX6 cA (ad 5) (X 5) ++ (wX1 cA (ad 7) (X 7) ++ (wX0 cA (ad 8) (ad 2 0) (X 8) ++ (wX4 cA (ad 9) (X 9) ++ (wX3 cA (ad 10) (X 10))))))))))))) (perm_of (fun c hc => by unfold wX7 wX7b; simp only [hc]; omega)) hP) 0 3 rfl rfl) hK hP hD hS hA (perm_of (fun c hc => by unfold wX7 wX7b; simp only [hc]; omega)) (perm_of (fun c hc => by rw [show wX7 cA ad (sX X 11 z9) = wX7b cA ad (X 0) (X 1) (X 2) (X 3) (X 4) (X 5) (X 6) (X 7) (X 8) (X 9) (X 10) z9 from rfl]; unfold wX7b; simp only [hc]; omega)) rfl hl.1 rfl (Nat.le_of_ble_eq_true rfl) dX7_smooth_21 ⟨(Nat.le_of_ble_eq_true rfl), (Nat.le_of_ble_eq_true rfl)⟩ (fun H locs hP hD hS => ?_)
      obtain ⟨s10, es10⟩ : ∃ z, z = sX X 11 z9 := ⟨_, rfl⟩
      rw [← es10] at hP hD
      have h := nm_ap es10 h
      refine lv_iload_n hx hb dX7_smooth_24 rfl (lv_at hl 0 rfl) ?_
      cases h
      exact hend _ _ _ _ hP hD hS dX7_smooth_25
    have h := if_f hc7 h
    cases h
  · have h := if_t hc h
    refine lv_iconst (v := (-1 : Int32)) hx hb dX7_smooth_7 (by decide) ?_
    cases h
    exact hend _ _ _ _ hP hD hS dX7_smooth_8
abbrev rmX7_loose : Room := ({ frames := 1, cells := 0, slots := 0, locals := 21 } : Room)
set_option maxHeartbeats 4000000 in
set_option maxRecDepth 100000 in
theorem c_X7_loose (l : Launch) (D : va_G) (cA : ClassId) (ad : (Nat → Nat → Nat)) (X : (Nat → Ob)) (x1 : Int32) (x2 : Int32) (r : Int32) (h : f_X7_loose X x1 x2 = some r) : ConR l yX7_loose wsX7_loose rmX7_loose D cA [.ref (ad 6 0), .int x1, .int x2] (wX7 cA ad X) r := by
  refine ConR.enter (cc := cX7_loose) (maxL := 4) (by decide) rfl (Nat.le_of_ble_eq_true rfl) ?_
  intro p e s m args below meth c Q hx hb hml hown hts hK hP  hend ls hl
  have hl : lv_has ls 4 [(0, .ref (ad 6 0)), (1, .int x1), (2, .int x2)] := hl
  unfold f_X7_loose at h
  refine lv_iload_n hx hb dX7_loose_0 rfl (lv_at hl 1 rfl) ?_
  obtain ⟨z1, hz1, h⟩ := bd_some h
  refine cR_S (As := [.int x1]) (rest := []) ⟨hx, hb, hml, hown, hts⟩ (c_X7_isRope l D cA  x1 z1 hz1) (va_cwS 1 hts gX7_loose_X7_isRope rfl rfl rfl hd_X7_isRope.2 ⟨(Nat.le_of_ble_eq_true rfl), (Nat.le_of_ble_eq_true rfl)⟩) hK hP [] rfl rfl hl.1 rfl (Nat.le_of_ble_eq_true rfl) dX7_loose_1 ⟨(Nat.le_of_ble_eq_true rfl), (Nat.le_of_ble_eq_true rfl)⟩ ?_
  refine lv_if_eq (tgt := 12) hx hb dX7_loose_4 (by decide) (fun hc => ?_) (fun hc => ?_)
  · have h := if_t hc h
    refine lv_iconst (v := (-1 : Int32)) hx hb dX7_loose_12 (by decide) ?_
    cases h
    exact hend _ _ dX7_loose_13
  · have h := if_f hc h
    refine lv_iload_n hx hb dX7_loose_7 rfl (lv_at hl 2 rfl) ?_
    refine lv_iconst (v := (-1 : Int32)) hx hb dX7_loose_8 (by decide) ?_
    refine lv_icmp_ge (tgt := 14) hx hb dX7_loose_9 (by decide) (fun hc => ?_) (fun hc => ?_)
    · have h := if_t hc h
      refine lv_aload_n hx hb dX7_loose_14 rfl (lv_at hl 0 rfl) ?_
      refine lv_iload_n hx hb dX7_loose_15 rfl (lv_at hl 1 rfl) ?_
      obtain ⟨z2, hz2, h⟩ := bd_some h
      refine pA_V (As := [.int x1]) (rest := []) (wr := ([] : va_W)) ⟨hx, hb, hml, hown, hts⟩ (c_X7_ropeAt l D cA ad X x1 z2 hz2) (cwV 1 hts gX7_loose_X7_ropeAt rfl rfl rfl hd_X7_ropeAt ⟨(Nat.le_of_ble_eq_true rfl), (Nat.le_of_ble_eq_true rfl)⟩) (recvK hK hP 0 7 rfl rfl) hK hP perm_nil rfl hl.1 rfl (Nat.le_of_ble_eq_true rfl) dX7_loose_16 ⟨(Nat.le_of_ble_eq_true rfl), (Nat.le_of_ble_eq_true rfl)⟩ ?_
      by_cases hc3 : z2 = 10
      · subst hc3
        have h := if_t rfl h
        refine lv_astore_n (lv' := [(3, .ref (ad 10 0)), (0, .ref (ad 6 0)), (1, .int x1), (2, .int x2)]) hx hb dX7_loose_19 rfl hl (by decide) rfl (fun ls hl => ?_)
        refine lv_iload_n hx hb dX7_loose_20 rfl (lv_at hl 3 rfl) ?_
        refine lv_iconst (v := (-1 : Int32)) hx hb dX7_loose_21 (by decide) ?_
        refine lv_icmp_ne (tgt := 32) hx hb dX7_loose_22 (by decide) (fun hc => ?_) (fun hc => ?_)
        · have h := if_f hc h
          refine lv_aload_n hx hb dX7_loose_32 rfl (lv_at hl 0 rfl) ?_
          refine lv_iload_n hx hb dX7_loose_33 rfl (lv_at hl 3 rfl) ?_
          obtain ⟨z4, hz4, h⟩ := bd_some h
          refine pR_V (As := [.int x2]) (rest := []) (wr := (tX7 ad (X 6) ++ (wX5 cA (ad 0) (X 0) ++ (wX2 cA (ad 1) (X 1) ++ (wX6 cA (ad 2) (X 2) ++ (wX6 cA (ad 3) (X 3) ++ (wX6 cA (ad 4) (X 4) ++ (wX6 cA (ad 5) (X 5) ++ (wX1 cA (ad 7) (X 7) ++ (wX0 cA (ad 8) (ad 2 0) (X 8) ++ (wX4 cA (ad 9) (X 9) ++ (wX3 cA (ad 11) (X 11))))))))))))) ⟨hx, hb, hml, hown, hts⟩ (c_X3_loosenedAt l D cA (ad 10) (X 10) x2 z4 hz4) (cwV 1 hts gX7_loose_X3_loosenedAt rfl rfl rfl hd_X3_loosenedAt ⟨(Nat.le_of_ble_eq_true rfl), (Nat.le_of_ble_eq_true rfl)⟩) (recvK hK (P_left (wc := wX3 cA (ad 10) (X 10)) (R := (tX7 ad (X 6) ++ (wX5 cA (ad 0) (X 0) ++ (wX2 cA (ad 1) (X 1) ++ (wX6 cA (ad 2) (X 2) ++ (wX6 cA (ad 3) (X 3) ++ (wX6 cA (ad 4) (X 4) ++ (wX6 cA (ad 5) (X 5) ++ (wX1 cA (ad 7) (X 7) ++ (wX0 cA (ad 8) (ad 2 0) (X 8) ++ (wX4 cA (ad 9) (X 9) ++ (wX3 cA (ad 11) (X 11))))))))))))) (perm_of (fun c hc => by unfold wX7 wX7b; simp only [hc]; omega)) hP) 0 3 rfl rfl) hK hP (perm_of (fun c hc => by unfold wX7 wX7b; simp only [hc]; omega)) rfl hl.1 rfl (Nat.le_of_ble_eq_true rfl) dX7_loose_34 ⟨(Nat.le_of_ble_eq_true rfl), (Nat.le_of_ble_eq_true rfl)⟩ ?_
          cases h
          exact hend _ _ dX7_loose_37
        · have h := if_t hc h
          refine lv_aload_n hx hb dX7_loose_25 rfl (lv_at hl 0 rfl) ?_
          obtain ⟨z5, hz5, h⟩ := bd_some h
          refine pR_V (As := []) (rest := []) (wr := (tX7 ad (X 6) ++ (wX5 cA (ad 0) (X 0) ++ (wX2 cA (ad 1) (X 1) ++ (wX6 cA (ad 2) (X 2) ++ (wX6 cA (ad 3) (X 3) ++ (wX6 cA (ad 4) (X 4) ++ (wX6 cA (ad 5) (X 5) ++ (wX1 cA (ad 7) (X 7) ++ (wX0 cA (ad 8) (ad 2 0) (X 8) ++ (wX4 cA (ad 9) (X 9) ++ (wX3 cA (ad 11) (X 11))))))))))))) ⟨hx, hb, hml, hown, hts⟩ (c_X3_loosenedSize l D cA (ad 10) (X 10)  z5 hz5) (cwV 0 hts gX7_loose_X3_loosenedSize rfl rfl rfl hd_X3_loosenedSize ⟨(Nat.le_of_ble_eq_true rfl), (Nat.le_of_ble_eq_true rfl)⟩) (recvK hK (P_left (wc := wX3 cA (ad 10) (X 10)) (R := (tX7 ad (X 6) ++ (wX5 cA (ad 0) (X 0) ++ (wX2 cA (ad 1) (X 1) ++ (wX6 cA (ad 2) (X 2) ++ (wX6 cA (ad 3) (X 3) ++ (wX6 cA (ad 4) (X 4) ++ (wX6 cA (ad 5) (X 5) ++ (wX1 cA (ad 7) (X 7) ++ (wX0 cA (ad 8) (ad 2 0) (X 8) ++ (wX4 cA (ad 9) (X 9) ++ (wX3 cA (ad 11) (X 11))))))))))))) (perm_of (fun c hc => by unfold wX7 wX7b; simp only [hc]; omega)) hP) 0 3 rfl rfl) hK hP (perm_of (fun c hc => by unfold wX7 wX7b; simp only [hc]; omega)) rfl hl.1 rfl (Nat.le_of_ble_eq_true rfl) dX7_loose_26 ⟨(Nat.le_of_ble_eq_true rfl), (Nat.le_of_ble_eq_true rfl)⟩ ?_
          refine lv_goto (tgt := 37) hx hb dX7_loose_29 (by decide) ?_
          cases h
          exact hend _ _ dX7_loose_37
      have h := if_f hc3 h
      by_cases hc6 : z2 = 11
      · subst hc6
        have h := if_t rfl h
        refine lv_astore_n (lv' := [(3, .ref (ad 11 0)), (0, .ref (ad 6 0)), (1, .int x1), (2, .int x2)]) hx hb dX7_loose_19 rfl hl (by decide) rfl (fun ls hl => ?_)
        refine lv_iload_n hx hb dX7_loose_20 rfl (lv_at hl 3 rfl) ?_
        refine lv_iconst (v := (-1 : Int32)) hx hb dX7_loose_21 (by decide) ?_
        refine lv_icmp_ne (tgt := 32) hx hb dX7_loose_22 (by decide) (fun hc => ?_) (fun hc => ?_)
        · have h := if_f hc h
          refine lv_aload_n hx hb dX7_loose_32 rfl (lv_at hl 0 rfl) ?_
          refine lv_iload_n hx hb dX7_loose_33 rfl (lv_at hl 3 rfl) ?_
          obtain ⟨z7, hz7, h⟩ := bd_some h
          refine pR_V (As := [.int x2]) (rest := []) (wr := (tX7 ad (X 6) ++ (wX5 cA (ad 0) (X 0) ++ (wX2 cA (ad 1) (X 1) ++ (wX6 cA (ad 2) (X 2) ++ (wX6 cA (ad 3) (X 3) ++ (wX6 cA (ad 4) (X 4) ++ (wX6 cA (ad 5) (X 5) ++ (wX1 cA (ad 7) (X 7) ++ (wX0 cA (ad 8) (ad 2 0) (X 8) ++ (wX4 cA (ad 9) (X 9) ++ (wX3 cA (ad 10) (X 10))))))))))))) ⟨hx, hb, hml, hown, hts⟩ (c_X3_loosenedAt l D cA (ad 11) (X 11) x2 z7 hz7) (cwV 1 hts gX7_loose_X3_loosenedAt rfl rfl rfl hd_X3_loosenedAt ⟨(Nat.le_of_ble_eq_true rfl), (Nat.le_of_ble_eq_true rfl)⟩) (recvK hK (P_left (wc := wX3 cA (ad 11) (X 11)) (R := (tX7 ad (X 6) ++ (wX5 cA (ad 0) (X 0) ++ (wX2 cA (ad 1) (X 1) ++ (wX6 cA (ad 2) (X 2) ++ (wX6 cA (ad 3) (X 3) ++ (wX6 cA (ad 4) (X 4) ++ (wX6 cA (ad 5) (X 5) ++ (wX1 cA (ad 7) (X 7) ++ (wX0 cA (ad 8) (ad 2 0) (X 8) ++ (wX4 cA (ad 9) (X 9) ++ (wX3 cA (ad 10) (X 10))))))))))))) (perm_of (fun c hc => by unfold wX7 wX7b; simp only [hc]; omega)) hP) 0 3 rfl rfl) hK hP (perm_of (fun c hc => by unfold wX7 wX7b; simp only [hc]; omega)) rfl hl.1 rfl (Nat.le_of_ble_eq_true rfl) dX7_loose_34 ⟨(Nat.le_of_ble_eq_true rfl), (Nat.le_of_ble_eq_true rfl)⟩ ?_
          cases h
          exact hend _ _ dX7_loose_37
        · have h := if_t hc h
          refine lv_aload_n hx hb dX7_loose_25 rfl (lv_at hl 0 rfl) ?_
          obtain ⟨z8, hz8, h⟩ := bd_some h
          refine pR_V (As := []) (rest := []) (wr := (tX7 ad (X 6) ++ (wX5 cA (ad 0) (X 0) ++ (wX2 cA (ad 1) (X 1) ++ (wX6 cA (ad 2) (X 2) ++ (wX6 cA (ad 3) (X 3) ++ (wX6 cA (ad 4) (X 4) ++ (wX6 cA (ad 5) (X 5) ++ (wX1 cA (ad 7) (X 7) ++ (wX0 cA (ad 8) (ad 2 0) (X 8) ++ (wX4 cA (ad 9) (X 9) ++ (wX3 cA (ad 10) (X 10))))))))))))) ⟨hx, hb, hml, hown, hts⟩ (c_X3_loosenedSize l D cA (ad 11) (X 11)  z8 hz8) (cwV 0 hts gX7_loose_X3_loosenedSize rfl rfl rfl hd_X3_loosenedSize ⟨(Nat.le_of_ble_eq_true rfl), (Nat.le_of_ble_eq_true rfl)⟩) (recvK hK (P_left (wc := wX3 cA (ad 11) (X 11)) (R := (tX7 ad (X 6) ++ (wX5 cA (ad 0) (X 0) ++ (wX2 cA (ad 1) (X 1) ++ (wX6 cA (ad 2) (X 2) ++ (wX6 cA (ad 3) (X 3) ++ (wX6 cA (ad 4) (X 4) ++ (wX6 cA (ad 5) (X 5) ++ (wX1 cA (ad 7) (X 7) ++ (wX0 cA (ad 8) (ad 2 0) (X 8) ++ (wX4 cA (ad 9) (X 9) ++ (wX3 cA (ad 10) (X 10))))))))))))) (perm_of (fun c hc => by unfold wX7 wX7b; simp only [hc]; omega)) hP) 0 3 rfl rfl) hK hP (perm_of (fun c hc => by unfold wX7 wX7b; simp only [hc]; omega)) rfl hl.1 rfl (Nat.le_of_ble_eq_true rfl) dX7_loose_26 ⟨(Nat.le_of_ble_eq_true rfl), (Nat.le_of_ble_eq_true rfl)⟩ ?_
          refine lv_goto (tgt := 37) hx hb dX7_loose_29 (by decide) ?_
          cases h
          exact hend _ _ dX7_loose_37
      have h := if_f hc6 h
      cases h
    · have h := if_f hc h
      refine lv_iconst (v := (-1 : Int32)) hx hb dX7_loose_12 (by decide) ?_
      cases h
      exact hend _ _ dX7_loose_13
abbrev rmX7_alike : Room := ({ frames := 3, cells := 0, slots := 0, locals := 73 } : Room)
set_option maxHeartbeats 4000000 in
set_option maxRecDepth 100000 in
theorem c_X7_alike (l : Launch) (D : va_G) (cA : ClassId) (ad : (Nat → Nat → Nat)) (X : (Nat → Ob)) (r : Int32) (h : f_X7_alike X = some r) : ConR l yX7_alike wsX7_alike rmX7_alike D cA [.ref (ad 6 0)] (wX7 cA ad X) r := by
  refine ConR.enter (cc := cX7_alike) (maxL := 1) (by decide) rfl (Nat.le_of_ble_eq_true rfl) ?_
  intro p e s m args below meth c Q hx hb hml hown hts hK hP  hend ls hl
  have hl : lv_has ls 1 [(0, .ref (ad 6 0))] := hl
  unfold f_X7_alike at h
  have lkf69 := hts (.fieldLink RX7 69 "TiedToTown" "leftRope" "LTiedToTown$Rope;") (List.mem_of_getElem? (i := 1) rfl)
  have hinX7 : ∀ w ∈ wsX70, w ∈ wsX7_alike := fun w h => List.mem_cons_of_mem _ (List.mem_append_left _ (List.mem_append_right _ h))
  have lkf73 := hts (.fieldLink RX7 73 "TiedToTown" "rightRope" "LTiedToTown$Rope;") (List.mem_of_getElem? (i := 2) rfl)
  refine lv_aload_n hx hb dX7_alike_0 rfl (lv_at hl 0 rfl) ?_
  refine va_get (D := D) (ci := 7) (v := .ref (ad 10 0)) (C := RX7) (T := TX7) (N := 12) hx hb hts hinX7 hown hK.1 hP 0 rfl rfl 10 (by decide) lkf69 (fun _ h9 => h9) rfl dX7_alike_1 ?_
  refine lv_aload_n hx hb dX7_alike_4 rfl (lv_at hl 0 rfl) ?_
  refine va_get (D := D) (ci := 7) (v := .ref (ad 11 0)) (C := RX7) (T := TX7) (N := 12) hx hb hts hinX7 hown hK.1 hP 0 rfl rfl 11 (by decide) lkf73 (fun _ h9 => h9) rfl dX7_alike_5 ?_
  obtain ⟨z1, hz1, h⟩ := bd_some h
  refine pR_V (As := [.ref (ad 11 0)]) (rest := []) (wr := (tX7 ad (X 6) ++ (wX5 cA (ad 0) (X 0) ++ (wX2 cA (ad 1) (X 1) ++ (wX6 cA (ad 2) (X 2) ++ (wX6 cA (ad 3) (X 3) ++ (wX6 cA (ad 4) (X 4) ++ (wX6 cA (ad 5) (X 5) ++ (wX1 cA (ad 7) (X 7) ++ (wX0 cA (ad 8) (ad 2 0) (X 8) ++ (wX4 cA (ad 9) (X 9)))))))))))) ⟨hx, hb, hml, hown, hts⟩ (c_X3_isSame l D cA (ad 10) (X 10) (ad 11) (X 11)  z1 hz1) (cwV 1 hts gX7_alike_X3_isSame rfl rfl rfl hd_X3_isSame ⟨(Nat.le_of_ble_eq_true rfl), (Nat.le_of_ble_eq_true rfl)⟩) (recvK hK (P_left (wc := wX3 cA (ad 10) (X 10)) (R := (tX7 ad (X 6) ++ (wX5 cA (ad 0) (X 0) ++ (wX2 cA (ad 1) (X 1) ++ (wX6 cA (ad 2) (X 2) ++ (wX6 cA (ad 3) (X 3) ++ (wX6 cA (ad 4) (X 4) ++ (wX6 cA (ad 5) (X 5) ++ (wX1 cA (ad 7) (X 7) ++ (wX0 cA (ad 8) (ad 2 0) (X 8) ++ (wX4 cA (ad 9) (X 9) ++ (wX3 cA (ad 11) (X 11))))))))))))) (perm_of (fun c hc => by unfold wX7 wX7b; simp only [hc]; omega)) hP) 0 3 rfl rfl) hK hP (perm_of (fun c hc => by unfold wX7 wX7b; simp only [hc]; omega)) rfl hl.1 rfl (Nat.le_of_ble_eq_true rfl) dX7_alike_8 ⟨(Nat.le_of_ble_eq_true rfl), (Nat.le_of_ble_eq_true rfl)⟩ ?_
  refine lv_if_eq (tgt := 16) hx hb dX7_alike_11 (by decide) (fun hc => ?_) (fun hc => ?_)
  · have h := if_t hc h
    refine lv_aload_n hx hb dX7_alike_16 rfl (lv_at hl 0 rfl) ?_
    refine va_get (D := D) (ci := 7) (v := .ref (ad 10 0)) (C := RX7) (T := TX7) (N := 12) hx hb hts hinX7 hown hK.1 hP 0 rfl rfl 10 (by decide) lkf69 (fun _ h9 => h9) rfl dX7_alike_17 ?_
    refine lv_aload_n hx hb dX7_alike_20 rfl (lv_at hl 0 rfl) ?_
    refine va_get (D := D) (ci := 7) (v := .ref (ad 11 0)) (C := RX7) (T := TX7) (N := 12) hx hb hts hinX7 hown hK.1 hP 0 rfl rfl 11 (by decide) lkf73 (fun _ h9 => h9) rfl dX7_alike_21 ?_
    obtain ⟨z2, hz2, h⟩ := bd_some h
    refine pR_V (As := [.ref (ad 11 0)]) (rest := []) (wr := (tX7 ad (X 6) ++ (wX5 cA (ad 0) (X 0) ++ (wX2 cA (ad 1) (X 1) ++ (wX6 cA (ad 2) (X 2) ++ (wX6 cA (ad 3) (X 3) ++ (wX6 cA (ad 4) (X 4) ++ (wX6 cA (ad 5) (X 5) ++ (wX1 cA (ad 7) (X 7) ++ (wX0 cA (ad 8) (ad 2 0) (X 8) ++ (wX4 cA (ad 9) (X 9)))))))))))) ⟨hx, hb, hml, hown, hts⟩ (c_X3_isTurned l D cA (ad 10) (X 10) (ad 11) (X 11)  z2 hz2) (cwV 1 hts gX7_alike_X3_isTurned rfl rfl rfl hd_X3_isTurned ⟨(Nat.le_of_ble_eq_true rfl), (Nat.le_of_ble_eq_true rfl)⟩) (recvK hK (P_left (wc := wX3 cA (ad 10) (X 10)) (R := (tX7 ad (X 6) ++ (wX5 cA (ad 0) (X 0) ++ (wX2 cA (ad 1) (X 1) ++ (wX6 cA (ad 2) (X 2) ++ (wX6 cA (ad 3) (X 3) ++ (wX6 cA (ad 4) (X 4) ++ (wX6 cA (ad 5) (X 5) ++ (wX1 cA (ad 7) (X 7) ++ (wX0 cA (ad 8) (ad 2 0) (X 8) ++ (wX4 cA (ad 9) (X 9) ++ (wX3 cA (ad 11) (X 11))))))))))))) (perm_of (fun c hc => by unfold wX7 wX7b; simp only [hc]; omega)) hP) 0 3 rfl rfl) hK hP (perm_of (fun c hc => by unfold wX7 wX7b; simp only [hc]; omega)) rfl hl.1 rfl (Nat.le_of_ble_eq_true rfl) dX7_alike_24 ⟨(Nat.le_of_ble_eq_true rfl), (Nat.le_of_ble_eq_true rfl)⟩ ?_
    obtain ⟨z3, hz3, h⟩ := bd_some h
    refine cR_S (As := [.int z2]) (rest := []) ⟨hx, hb, hml, hown, hts⟩ (c_X7_asNumber l D cA  z2 z3 hz3) (va_cwS 1 hts gX7_alike_X7_asNumber rfl rfl rfl hd_X7_asNumber.2 ⟨(Nat.le_of_ble_eq_true rfl), (Nat.le_of_ble_eq_true rfl)⟩) hK hP [] rfl rfl hl.1 rfl (Nat.le_of_ble_eq_true rfl) dX7_alike_27 ⟨(Nat.le_of_ble_eq_true rfl), (Nat.le_of_ble_eq_true rfl)⟩ ?_
    cases h
    exact hend _ _ dX7_alike_30
  · have h := if_f hc h
    refine lv_iconst (v := (2 : Int32)) hx hb dX7_alike_14 (by decide) ?_
    cases h
    exact hend _ _ dX7_alike_15
abbrev rmX7_mark : Room := ({ frames := 2, cells := 0, slots := 0, locals := 45 } : Room)
set_option maxHeartbeats 4000000 in
set_option maxRecDepth 100000 in
theorem c_X7_mark (l : Launch) (D : va_G) (cA : ClassId) (ad : (Nat → Nat → Nat)) (X : (Nat → Ob)) (x1 : Int32) (x2 : Int32) (r : Int32) (h : f_X7_mark X x1 x2 = some r) : ConR l yX7_mark wsX7_mark rmX7_mark D cA [.ref (ad 6 0), .int x1, .int x2] (wX7 cA ad X) r := by
  refine ConR.enter (cc := cX7_mark) (maxL := 3) (by decide) rfl (Nat.le_of_ble_eq_true rfl) ?_
  intro p e s m args below meth c Q hx hb hml hown hts hK hP  hend ls hl
  have hl : lv_has ls 3 [(0, .ref (ad 6 0)), (1, .int x1), (2, .int x2)] := hl
  unfold f_X7_mark at h
  refine lv_iload_n hx hb dX7_mark_0 rfl (lv_at hl 1 rfl) ?_
  obtain ⟨z1, hz1, h⟩ := bd_some h
  refine cR_S (As := [.int x1]) (rest := []) ⟨hx, hb, hml, hown, hts⟩ (c_X7_isRope l D cA  x1 z1 hz1) (va_cwS 1 hts gX7_mark_X7_isRope rfl rfl rfl hd_X7_isRope.2 ⟨(Nat.le_of_ble_eq_true rfl), (Nat.le_of_ble_eq_true rfl)⟩) hK hP [] rfl rfl hl.1 rfl (Nat.le_of_ble_eq_true rfl) dX7_mark_1 ⟨(Nat.le_of_ble_eq_true rfl), (Nat.le_of_ble_eq_true rfl)⟩ ?_
  refine lv_if_eq (tgt := 16) hx hb dX7_mark_4 (by decide) (fun hc => ?_) (fun hc => ?_)
  · have h := if_t hc h
    refine lv_iconst (v := (-1 : Int32)) hx hb dX7_mark_16 (by decide) ?_
    cases h
    exact hend _ _ dX7_mark_17
  · have h := if_f hc h
    refine lv_iload_n hx hb dX7_mark_7 rfl (lv_at hl 2 rfl) ?_
    refine lv_if_lt (tgt := 16) hx hb dX7_mark_8 (by decide) (fun hc => ?_) (fun hc => ?_)
    · have h := if_t hc h
      refine lv_iconst (v := (-1 : Int32)) hx hb dX7_mark_16 (by decide) ?_
      cases h
      exact hend _ _ dX7_mark_17
    · have h := if_f hc h
      refine lv_iload_n hx hb dX7_mark_11 rfl (lv_at hl 2 rfl) ?_
      refine lv_iconst (v := (4 : Int32)) hx hb dX7_mark_12 (by decide) ?_
      refine lv_icmp_lt (tgt := 18) hx hb dX7_mark_13 (by decide) (fun hc => ?_) (fun hc => ?_)
      · have h := if_t hc h
        refine lv_bipush (v := (100 : Int32)) hx hb dX7_mark_18 (by decide) ?_
        refine lv_aload_n hx hb dX7_mark_20 rfl (lv_at hl 0 rfl) ?_
        refine lv_iload_n hx hb dX7_mark_21 rfl (lv_at hl 1 rfl) ?_
        obtain ⟨z2, hz2, h⟩ := bd_some h
        refine pA_V (As := [.int x1]) (rest := [.int (100 : Int32)]) (wr := ([] : va_W)) ⟨hx, hb, hml, hown, hts⟩ (c_X7_ropeAt l D cA ad X x1 z2 hz2) (cwV 1 hts gX7_mark_X7_ropeAt rfl rfl rfl hd_X7_ropeAt ⟨(Nat.le_of_ble_eq_true rfl), (Nat.le_of_ble_eq_true rfl)⟩) (recvK hK hP 0 7 rfl rfl) hK hP perm_nil rfl hl.1 rfl (Nat.le_of_ble_eq_true rfl) dX7_mark_22 ⟨(Nat.le_of_ble_eq_true rfl), (Nat.le_of_ble_eq_true rfl)⟩ ?_
        by_cases hc3 : z2 = 10
        · subst hc3
          have h := if_t rfl h
          refine lv_iload_n hx hb dX7_mark_25 rfl (lv_at hl 2 rfl) ?_
          obtain ⟨z4, hz4, h⟩ := bd_some h
          refine pR_V (As := [.int x2]) (rest := [.int (100 : Int32)]) (wr := (tX7 ad (X 6) ++ (wX5 cA (ad 0) (X 0) ++ (wX2 cA (ad 1) (X 1) ++ (wX6 cA (ad 2) (X 2) ++ (wX6 cA (ad 3) (X 3) ++ (wX6 cA (ad 4) (X 4) ++ (wX6 cA (ad 5) (X 5) ++ (wX1 cA (ad 7) (X 7) ++ (wX0 cA (ad 8) (ad 2 0) (X 8) ++ (wX4 cA (ad 9) (X 9) ++ (wX3 cA (ad 11) (X 11))))))))))))) ⟨hx, hb, hml, hown, hts⟩ (c_X3_markOf l D cA (ad 10) (X 10) x2 z4 hz4) (cwV 1 hts gX7_mark_X3_markOf rfl rfl rfl hd_X3_markOf ⟨(Nat.le_of_ble_eq_true rfl), (Nat.le_of_ble_eq_true rfl)⟩) (recvK hK (P_left (wc := wX3 cA (ad 10) (X 10)) (R := (tX7 ad (X 6) ++ (wX5 cA (ad 0) (X 0) ++ (wX2 cA (ad 1) (X 1) ++ (wX6 cA (ad 2) (X 2) ++ (wX6 cA (ad 3) (X 3) ++ (wX6 cA (ad 4) (X 4) ++ (wX6 cA (ad 5) (X 5) ++ (wX1 cA (ad 7) (X 7) ++ (wX0 cA (ad 8) (ad 2 0) (X 8) ++ (wX4 cA (ad 9) (X 9) ++ (wX3 cA (ad 11) (X 11))))))))))))) (perm_of (fun c hc => by unfold wX7 wX7b; simp only [hc]; omega)) hP) 0 3 rfl rfl) hK hP (perm_of (fun c hc => by unfold wX7 wX7b; simp only [hc]; omega)) rfl hl.1 rfl (Nat.le_of_ble_eq_true rfl) dX7_mark_26 ⟨(Nat.le_of_ble_eq_true rfl), (Nat.le_of_ble_eq_true rfl)⟩ ?_
          refine lv_iadd hx hb dX7_mark_29 ?_
          cases h
          exact hend _ _ dX7_mark_30
        have h := if_f hc3 h
        by_cases hc5 : z2 = 11
        · subst hc5
          have h := if_t rfl h
          refine lv_iload_n hx hb dX7_mark_25 rfl (lv_at hl 2 rfl) ?_
          obtain ⟨z6, hz6, h⟩ := bd_some h
          refine pR_V (As := [.int x2]) (rest := [.int (100 : Int32)]) (wr := (tX7 ad (X 6) ++ (wX5 cA (ad 0) (X 0) ++ (wX2 cA (ad 1) (X 1) ++ (wX6 cA (ad 2) (X 2) ++ (wX6 cA (ad 3) (X 3) ++ (wX6 cA (ad 4) (X 4) ++ (wX6 cA (ad 5) (X 5) ++ (wX1 cA (ad 7) (X 7) ++ (wX0 cA (ad 8) (ad 2 0) (X 8) ++ (wX4 cA (ad 9) (X 9) ++ (wX3 cA (ad 10) (X 10))))))))))))) ⟨hx, hb, hml, hown, hts⟩ (c_X3_markOf l D cA (ad 11) (X 11) x2 z6 hz6) (cwV 1 hts gX7_mark_X3_markOf rfl rfl rfl hd_X3_markOf ⟨(Nat.le_of_ble_eq_true rfl), (Nat.le_of_ble_eq_true rfl)⟩) (recvK hK (P_left (wc := wX3 cA (ad 11) (X 11)) (R := (tX7 ad (X 6) ++ (wX5 cA (ad 0) (X 0) ++ (wX2 cA (ad 1) (X 1) ++ (wX6 cA (ad 2) (X 2) ++ (wX6 cA (ad 3) (X 3) ++ (wX6 cA (ad 4) (X 4) ++ (wX6 cA (ad 5) (X 5) ++ (wX1 cA (ad 7) (X 7) ++ (wX0 cA (ad 8) (ad 2 0) (X 8) ++ (wX4 cA (ad 9) (X 9) ++ (wX3 cA (ad 10) (X 10))))))))))))) (perm_of (fun c hc => by unfold wX7 wX7b; simp only [hc]; omega)) hP) 0 3 rfl rfl) hK hP (perm_of (fun c hc => by unfold wX7 wX7b; simp only [hc]; omega)) rfl hl.1 rfl (Nat.le_of_ble_eq_true rfl) dX7_mark_26 ⟨(Nat.le_of_ble_eq_true rfl), (Nat.le_of_ble_eq_true rfl)⟩ ?_
          refine lv_iadd hx hb dX7_mark_29 ?_
          cases h
          exact hend _ _ dX7_mark_30
        have h := if_f hc5 h
        cases h
      · have h := if_f hc h
        refine lv_iconst (v := (-1 : Int32)) hx hb dX7_mark_16 (by decide) ?_
        cases h
        exact hend _ _ dX7_mark_17
abbrev rmX7_year : Room := ({ frames := 5, cells := 0, slots := 0, locals := 115 } : Room)
set_option maxHeartbeats 4000000 in
set_option maxRecDepth 100000 in
theorem c_X7_year (l : Launch) (D : va_G) (cA : ClassId) (ad : (Nat → Nat → Nat)) (X : (Nat → Ob)) (x1 : Int32) (x2 : Int32) (x3 : Int32) (r : Int32) (h : f_X7_year X x1 x2 x3 = some r) : ConR l yX7_year wsX7_year rmX7_year D cA [.ref (ad 6 0), .int x1, .int x2, .int x3] (wX7 cA ad X) r := by
  refine ConR.enter (cc := cX7_year) (maxL := 8) (by decide) rfl (Nat.le_of_ble_eq_true rfl) ?_
  intro p e s m args below meth c Q hx hb hml hown hts hK hP  hend ls hl
  have hl : lv_has ls 8 [(0, .ref (ad 6 0)), (1, .int x1), (2, .int x2), (3, .int x3)] := hl
  unfold f_X7_year at h
  have lkf26 := hts (.fieldLink RX7 26 "TiedToTown" "town" "LTiedToTown$Town;") (List.mem_of_getElem? (i := 1) rfl)
  have hinX7 : ∀ w ∈ wsX70, w ∈ wsX7_year := fun w h => List.mem_cons_of_mem _ (List.mem_append_left _ (List.mem_append_left _ (List.mem_append_right _ h)))
  have lkf127 := va_Nw.use (w := Cond.fieldLinkNest RX7 127 "TiedToTown$Town" "tied" "I" "TiedToTown") rfl (A := args) (hK.2 _ (List.mem_of_getElem? (i := 20) rfl))
  have hinX6 : ∀ w ∈ wsX60, w ∈ wsX7_year := fun w h => List.mem_cons_of_mem _ (List.mem_append_left _ (List.mem_append_right _ h))
  have lkf55 := hts (.fieldLink RX7 55 "TiedToTown" "outlook" "LTiedToTown$Outlook;") (List.mem_of_getElem? (i := 2) rfl)
  have LP48 : ∀ (x1 : Int32) (x2 : Int32) (x3 : Int32) (n : Nat) (x4 : Int32) (x5 : Int32) (x6 : Int32) (ls : Array Slot) (_ : lv_has ls 8 [(0, .ref (ad 6 0)), (1, .int x1), (2, .int x2), (3, .int x3), (4, .int x4), (5, .int x5), (6, .int x6)]) (res : Int32 × Int32) (_ : L_X7_year_48 x1 x2 x3 X n x4 x5 x6 = some res) (_ : (∀ (ls : Array Slot), lv_has ls 8 [(3, .int x3), (4, .int res.1), (5, .int res.2)] → W p l e rmX7_year s m args below meth c s.heap [] 0 0 Q (F0 m 95 ls []))), W p l e rmX7_year s m args below meth c s.heap [] 0 0 Q (F0 m 48 ls []) := by
    intro x1 x2 x3 n
    induction n with
    | zero =>
      intro x4 x5 x6 ls hl res h K0
      exact absurd h (fun q : (none : Option (Int32 × Int32)) = some res => by cases q)
    | succ n ih =>
      intro x4 x5 x6 ls hl res h K0
      have h : L_X7_year_48_step x1 x2 x3 X (L_X7_year_48 x1 x2 x3 X n) x4 x5 x6 = some res := h
      unfold L_X7_year_48_step at h
      refine lv_iload hx hb dX7_year_48 (lv_at hl 6 rfl) ?_
      refine lv_iload_n hx hb dX7_year_50 rfl (lv_at hl 2 rfl) ?_
      refine lv_icmp_ge (tgt := 95) hx hb dX7_year_51 (by decide) (fun hc => ?_) (fun hc => ?_)
      · have h := if_t hc h
        cases h
        exact K0 _ (lv_sub hl [3, 4, 5] rfl)
      · have h := if_f hc h
        refine lv_aload_n hx hb dX7_year_54 rfl (lv_at hl 0 rfl) ?_
        refine va_get (D := D) (ci := 7) (v := .ref (ad 8 0)) (C := RX7) (T := TX7) (N := 12) hx hb hts hinX7 hown hK.1 hP 0 rfl rfl 8 (by decide) lkf55 (fun _ h9 => h9) rfl dX7_year_55 ?_
        refine lv_aload_n hx hb dX7_year_58 rfl (lv_at hl 0 rfl) ?_
        refine va_get (D := D) (ci := 7) (v := .ref (ad 8 0)) (C := RX7) (T := TX7) (N := 12) hx hb hts hinX7 hown hK.1 hP 0 rfl rfl 8 (by decide) lkf55 (fun _ h9 => h9) rfl dX7_year_59 ?_
        refine lv_iload_n hx hb dX7_year_62 rfl (lv_at hl 1 rfl) ?_
        refine lv_iload hx hb dX7_year_63 (lv_at hl 6 rfl) ?_
        obtain ⟨z1, hz1, h⟩ := bd_some h
        refine pR_V (As := [.int x1, .int x6]) (rest := [.ref (ad 8 0)]) (wr := (tX7 ad (X 6) ++ (wX5 cA (ad 0) (X 0) ++ (wX2 cA (ad 1) (X 1) ++ (wX6 cA (ad 3) (X 3) ++ (wX6 cA (ad 4) (X 4) ++ (wX6 cA (ad 5) (X 5) ++ (wX1 cA (ad 7) (X 7) ++ (wX4 cA (ad 9) (X 9) ++ (wX3 cA (ad 10) (X 10) ++ (wX3 cA (ad 11) (X 11)))))))))))) ⟨hx, hb, hml, hown, hts⟩ (c_X0_drawn l D cA (ad 8) (X 8) (ad 2) (X 2) x1 x6 z1 hz1) (cwV 2 hts gX7_year_X0_drawn rfl rfl rfl hd_X0_drawn ⟨(Nat.le_of_ble_eq_true rfl), (Nat.le_of_ble_eq_true rfl)⟩) (recvK hK (P_left (wc := wX0 cA (ad 8) (ad 2 0) (X 8)) (R := (tX7 ad (X 6) ++ (wX5 cA (ad 0) (X 0) ++ (wX2 cA (ad 1) (X 1) ++ (wX6 cA (ad 2) (X 2) ++ (wX6 cA (ad 3) (X 3) ++ (wX6 cA (ad 4) (X 4) ++ (wX6 cA (ad 5) (X 5) ++ (wX1 cA (ad 7) (X 7) ++ (wX4 cA (ad 9) (X 9) ++ (wX3 cA (ad 10) (X 10) ++ (wX3 cA (ad 11) (X 11))))))))))))) (perm_of (fun c hc => by unfold wX7 wX7b; simp only [hc]; omega)) hP) 0 0 rfl rfl) hK hP (perm_of (fun c hc => by unfold wX7 wX7b; simp only [hc]; omega)) rfl hl.1 rfl (Nat.le_of_ble_eq_true rfl) dX7_year_65 ⟨(Nat.le_of_ble_eq_true rfl), (Nat.le_of_ble_eq_true rfl)⟩ ?_
        refine lv_iload hx hb dX7_year_68 (lv_at hl 4 rfl) ?_
        obtain ⟨z2, hz2, h⟩ := bd_some h
        refine pR_V (As := [.int z1, .int x4]) (rest := []) (wr := (tX7 ad (X 6) ++ (wX5 cA (ad 0) (X 0) ++ (wX2 cA (ad 1) (X 1) ++ (wX6 cA (ad 3) (X 3) ++ (wX6 cA (ad 4) (X 4) ++ (wX6 cA (ad 5) (X 5) ++ (wX1 cA (ad 7) (X 7) ++ (wX4 cA (ad 9) (X 9) ++ (wX3 cA (ad 10) (X 10) ++ (wX3 cA (ad 11) (X 11)))))))))))) ⟨hx, hb, hml, hown, hts⟩ (c_X0_turned l D cA (ad 8) (X 8) (ad 2) (X 2) z1 x4 z2 hz2) (cwV 2 hts gX7_year_X0_turned rfl rfl rfl hd_X0_turned ⟨(Nat.le_of_ble_eq_true rfl), (Nat.le_of_ble_eq_true rfl)⟩) (recvK hK (P_left (wc := wX0 cA (ad 8) (ad 2 0) (X 8)) (R := (tX7 ad (X 6) ++ (wX5 cA (ad 0) (X 0) ++ (wX2 cA (ad 1) (X 1) ++ (wX6 cA (ad 2) (X 2) ++ (wX6 cA (ad 3) (X 3) ++ (wX6 cA (ad 4) (X 4) ++ (wX6 cA (ad 5) (X 5) ++ (wX1 cA (ad 7) (X 7) ++ (wX4 cA (ad 9) (X 9) ++ (wX3 cA (ad 10) (X 10) ++ (wX3 cA (ad 11) (X 11))))))))))))) (perm_of (fun c hc => by unfold wX7 wX7b; simp only [hc]; omega)) hP) 0 0 rfl rfl) hK hP (perm_of (fun c hc => by unfold wX7 wX7b; simp only [hc]; omega)) rfl hl.1 rfl (Nat.le_of_ble_eq_true rfl) dX7_year_70 ⟨(Nat.le_of_ble_eq_true rfl), (Nat.le_of_ble_eq_true rfl)⟩ ?_
        refine lv_istore (lv' := [(7, .int z2), (0, .ref (ad 6 0)), (1, .int x1), (2, .int x2), (3, .int x3), (4, .int x4), (5, .int x5), (6, .int x6)]) hx hb dX7_year_73 hl (by decide) rfl (fun ls hl => ?_)
        refine lv_iload hx hb dX7_year_75 (lv_at hl 0 rfl) ?_
        refine lv_iload hx hb dX7_year_77 (lv_at hl 5 rfl) ?_
        refine lv_icmp_eq (tgt := 85) hx hb dX7_year_79 (by decide) (fun hc => ?_) (fun hc => ?_)
        · have h := if_t hc h
          refine lv_iload hx hb dX7_year_85 (lv_at hl 0 rfl) ?_
          refine lv_istore (lv' := [(4, .int z2), (7, .int z2), (0, .ref (ad 6 0)), (1, .int x1), (2, .int x2), (3, .int x3), (5, .int x5), (6, .int x6)]) hx hb dX7_year_87 hl (by decide) rfl (fun ls hl => ?_)
          obtain ⟨v3, ev3⟩ : ∃ y : Int32, y = x6 + (1 : Int32) := ⟨_, rfl⟩
          refine lv_iinc (v := v3) (lv' := [(6, .int v3), (4, .int z2), (7, .int z2), (0, .ref (ad 6 0)), (1, .int x1), (2, .int x2), (3, .int x3), (5, .int x5)]) hx hb dX7_year_89 hl (k := 7) rfl (by rw [ev3]; rfl) (by decide) rfl (fun ls hl => ?_)
          have h := nm_ap ev3 h
          refine lv_goto (tgt := 48) hx hb dX7_year_92 (by decide) ?_
          exact ih z2 x5 v3 ls (lv_sub hl [3, 4, 5, 6, 1, 7, 0] rfl) _ h K0
        · have h := if_f hc h
          obtain ⟨v4, ev4⟩ : ∃ y : Int32, y = x5 + (1 : Int32) := ⟨_, rfl⟩
          refine lv_iinc (v := v4) (lv' := [(5, .int v4), (7, .int z2), (0, .ref (ad 6 0)), (1, .int x1), (2, .int x2), (3, .int x3), (4, .int x4), (6, .int x6)]) hx hb dX7_year_82 hl (k := 6) rfl (by rw [ev4]; rfl) (by decide) rfl (fun ls hl => ?_)
          have h := nm_ap ev4 h
          refine lv_iload hx hb dX7_year_85 (lv_at hl 1 rfl) ?_
          refine lv_istore (lv' := [(4, .int z2), (5, .int v4), (7, .int z2), (0, .ref (ad 6 0)), (1, .int x1), (2, .int x2), (3, .int x3), (6, .int x6)]) hx hb dX7_year_87 hl (by decide) rfl (fun ls hl => ?_)
          obtain ⟨v5, ev5⟩ : ∃ y : Int32, y = x6 + (1 : Int32) := ⟨_, rfl⟩
          refine lv_iinc (v := v5) (lv' := [(6, .int v5), (4, .int z2), (5, .int v4), (7, .int z2), (0, .ref (ad 6 0)), (1, .int x1), (2, .int x2), (3, .int x3)]) hx hb dX7_year_89 hl (k := 7) rfl (by rw [ev5]; rfl) (by decide) rfl (fun ls hl => ?_)
          have h := nm_ap ev5 h
          refine lv_goto (tgt := 48) hx hb dX7_year_92 (by decide) ?_
          exact ih z2 v4 v5 ls (lv_sub hl [4, 5, 6, 7, 1, 2, 0] rfl) _ h K0
  refine lv_iload_n hx hb dX7_year_0 rfl (lv_at hl 1 rfl) ?_
  refine lv_if_lt (tgt := 31) hx hb dX7_year_1 (by decide) (fun hc => ?_) (fun hc => ?_)
  · have h := if_t hc h
    refine lv_iconst (v := (-1 : Int32)) hx hb dX7_year_31 (by decide) ?_
    cases h
    exact hend _ _ dX7_year_32
  · have h := if_f hc h
    refine lv_iload_n hx hb dX7_year_4 rfl (lv_at hl 1 rfl) ?_
    refine lv_sipush (v := (9999 : Int32)) hx hb dX7_year_5 (by decide) ?_
    refine lv_icmp_gt (tgt := 31) hx hb dX7_year_8 (by decide) (fun hc => ?_) (fun hc => ?_)
    · have h := if_t hc h
      refine lv_iconst (v := (-1 : Int32)) hx hb dX7_year_31 (by decide) ?_
      cases h
      exact hend _ _ dX7_year_32
    · have h := if_f hc h
      refine lv_iload_n hx hb dX7_year_11 rfl (lv_at hl 2 rfl) ?_
      refine lv_iconst (v := (1 : Int32)) hx hb dX7_year_12 (by decide) ?_
      refine lv_icmp_lt (tgt := 31) hx hb dX7_year_13 (by decide) (fun hc => ?_) (fun hc => ?_)
      · have h := if_t hc h
        refine lv_iconst (v := (-1 : Int32)) hx hb dX7_year_31 (by decide) ?_
        cases h
        exact hend _ _ dX7_year_32
      · have h := if_f hc h
        refine lv_iload_n hx hb dX7_year_16 rfl (lv_at hl 2 rfl) ?_
        refine lv_bipush (v := (60 : Int32)) hx hb dX7_year_17 (by decide) ?_
        refine lv_icmp_gt (tgt := 31) hx hb dX7_year_19 (by decide) (fun hc => ?_) (fun hc => ?_)
        · have h := if_t hc h
          refine lv_iconst (v := (-1 : Int32)) hx hb dX7_year_31 (by decide) ?_
          cases h
          exact hend _ _ dX7_year_32
        · have h := if_f hc h
          refine lv_iload_n hx hb dX7_year_22 rfl (lv_at hl 3 rfl) ?_
          refine lv_if_lt (tgt := 31) hx hb dX7_year_23 (by decide) (fun hc => ?_) (fun hc => ?_)
          · have h := if_t hc h
            refine lv_iconst (v := (-1 : Int32)) hx hb dX7_year_31 (by decide) ?_
            cases h
            exact hend _ _ dX7_year_32
          · have h := if_f hc h
            refine lv_iload_n hx hb dX7_year_26 rfl (lv_at hl 3 rfl) ?_
            refine lv_iconst (v := (1 : Int32)) hx hb dX7_year_27 (by decide) ?_
            refine lv_icmp_le (tgt := 33) hx hb dX7_year_28 (by decide) (fun hc => ?_) (fun hc => ?_)
            · have h := if_t hc h
              refine lv_aload_n hx hb dX7_year_33 rfl (lv_at hl 0 rfl) ?_
              refine va_get (D := D) (ci := 7) (v := .ref (ad 2 0)) (C := RX7) (T := TX7) (N := 12) hx hb hts hinX7 hown hK.1 hP 0 rfl rfl 2 (by decide) lkf26 (fun _ h9 => h9) rfl dX7_year_34 ?_
              refine va_getN (D := D) (ci := 6) (v := .int ((X 2).1 10)) (C := RX6) (T := TX6) (N := 12) hx hb hts hinX6 hown hK.1 (P_left (wc := wX6 cA (ad 2) (X 2)) (R := (tX7 ad (X 6) ++ (wX5 cA (ad 0) (X 0) ++ (wX2 cA (ad 1) (X 1) ++ (wX6 cA (ad 3) (X 3) ++ (wX6 cA (ad 4) (X 4) ++ (wX6 cA (ad 5) (X 5) ++ (wX1 cA (ad 7) (X 7) ++ (wX0 cA (ad 8) (ad 2 0) (X 8) ++ (wX4 cA (ad 9) (X 9) ++ (wX3 cA (ad 10) (X 10) ++ (wX3 cA (ad 11) (X 11))))))))))))) (perm_of (fun c hc => by unfold wX7 wX7b; simp only [hc]; omega)) hP) 0 rfl rfl 10 (by decide) lkf127 (fun _ h9 => h9) rfl dX7_year_37 ?_
              refine lv_topi (fun v1 ev1 => ?_)
              have h := nm_ap ev1 h
              refine lv_istore (lv' := [(4, .int v1), (0, .ref (ad 6 0)), (1, .int x1), (2, .int x2), (3, .int x3)]) hx hb dX7_year_40 hl (by decide) rfl (fun ls hl => ?_)
              refine lv_iconst (v := (0 : Int32)) hx hb dX7_year_42 (by decide) ?_
              refine lv_istore (lv' := [(5, .int (0 : Int32)), (4, .int v1), (0, .ref (ad 6 0)), (1, .int x1), (2, .int x2), (3, .int x3)]) hx hb dX7_year_43 hl (by decide) rfl (fun ls hl => ?_)
              refine lv_iconst (v := (0 : Int32)) hx hb dX7_year_45 (by decide) ?_
              refine lv_istore (lv' := [(6, .int (0 : Int32)), (5, .int (0 : Int32)), (4, .int v1), (0, .ref (ad 6 0)), (1, .int x1), (2, .int x2), (3, .int x3)]) hx hb dX7_year_46 hl (by decide) rfl (fun ls hl => ?_)
              obtain ⟨z2, hz2, h⟩ := bd_some h
              refine LP48 x1 x2 x3 512 v1 (0 : Int32) (0 : Int32) ls (lv_sub hl [3, 4, 5, 6, 2, 1, 0] rfl) _ hz2 ?_
              · intro ls hl
                refine lv_iload_n hx hb dX7_year_95 rfl (lv_at hl 0 rfl) ?_
                refine lv_if_ne (tgt := 104) hx hb dX7_year_96 (by decide) (fun hc => ?_) (fun hc => ?_)
                · have h := if_f hc h
                  refine lv_iload hx hb dX7_year_104 (lv_at hl 2 rfl) ?_
                  cases h
                  exact hend _ _ dX7_year_106
                · have h := if_t hc h
                  refine lv_iload hx hb dX7_year_99 (lv_at hl 1 rfl) ?_
                  refine lv_goto (tgt := 106) hx hb dX7_year_101 (by decide) ?_
                  cases h
                  exact hend _ _ dX7_year_106
            · have h := if_f hc h
              refine lv_iconst (v := (-1 : Int32)) hx hb dX7_year_31 (by decide) ?_
              cases h
              exact hend _ _ dX7_year_32
abbrev rmX7_keptAt : Room := ({ frames := 0, cells := 0, slots := 0, locals := 0 } : Room)
set_option maxHeartbeats 4000000 in
set_option maxRecDepth 100000 in
theorem c_X7_keptAt (l : Launch) (D : va_G) (cA : ClassId) (ad : (Nat → Nat → Nat)) (X : (Nat → Ob)) (x1 : Int32) (r : Nat) (h : f_X7_keptAt X x1 = some r) : ConA l yX7_keptAt wsX7_keptAt rmX7_keptAt D cA [.ref (ad 6 0), .int x1] (wX7 cA ad X) (ad r 0) := by
  refine ConA.enter (cc := cX7_keptAt) (maxL := 2) (by decide) rfl (Nat.le_of_ble_eq_true rfl) ?_
  intro p e s m args below meth c Q hx hb hml hown hts hK hP  hend ls hl
  have hl : lv_has ls 2 [(0, .ref (ad 6 0)), (1, .int x1)] := hl
  unfold f_X7_keptAt at h
  have lkf36 := hts (.fieldLink RX7 36 "TiedToTown" "keptSecond" "LTiedToTown$Town;") (List.mem_of_getElem? (i := 2) rfl)
  have hinX7 : ∀ w ∈ wsX70, w ∈ wsX7_keptAt := fun w h => List.mem_cons_of_mem _ (List.mem_append_right _ h)
  have lkf33 := hts (.fieldLink RX7 33 "TiedToTown" "keptFirst" "LTiedToTown$Town;") (List.mem_of_getElem? (i := 1) rfl)
  refine lv_iload_n hx hb dX7_keptAt_0 rfl (lv_at hl 1 rfl) ?_
  refine lv_if_ne (tgt := 11) hx hb dX7_keptAt_1 (by decide) (fun hc => ?_) (fun hc => ?_)
  · have h := if_f hc h
    refine lv_aload_n hx hb dX7_keptAt_11 rfl (lv_at hl 0 rfl) ?_
    refine va_get (D := D) (ci := 7) (v := .ref (ad 5 0)) (C := RX7) (T := TX7) (N := 12) hx hb hts hinX7 hown hK.1 hP 0 rfl rfl 5 (by decide) lkf36 (fun _ h9 => h9) rfl dX7_keptAt_12 ?_
    cases h
    exact hend _ _ dX7_keptAt_15
  · have h := if_t hc h
    refine lv_aload_n hx hb dX7_keptAt_4 rfl (lv_at hl 0 rfl) ?_
    refine va_get (D := D) (ci := 7) (v := .ref (ad 4 0)) (C := RX7) (T := TX7) (N := 12) hx hb hts hinX7 hown hK.1 hP 0 rfl rfl 4 (by decide) lkf33 (fun _ h9 => h9) rfl dX7_keptAt_5 ?_
    refine lv_goto (tgt := 15) hx hb dX7_keptAt_8 (by decide) ?_
    cases h
    exact hend _ _ dX7_keptAt_15
abbrev rmX7_keep : Room := ({ frames := 1, cells := 0, slots := 0, locals := 22 } : Room)
set_option maxHeartbeats 4000000 in
set_option maxRecDepth 100000 in
theorem c_X7_keep (l : Launch) (D : va_G) (cA : ClassId) (ad : (Nat → Nat → Nat)) (X : (Nat → Ob)) (r : Int32) (X_ : (Nat → Ob)) (h : f_X7_keep X = some (r, X_)) : ConW l yX7_keep wsX7_keep rmX7_keep D cA [.ref (ad 6 0)] (wX7 cA ad X) r (wX7 cA ad X_) := by
  refine ConW.enter (cc := cX7_keep) (maxL := 1) (by decide) rfl (Nat.le_of_ble_eq_true rfl) ?_
  intro p e s m args below meth c Q A hx hb hml hown hts hK hP hD hA hend ls hl
  have hS : va_S A s.heap s.heap [] := va_S.rf
  have hl : lv_has ls 1 [(0, .ref (ad 6 0))] := hl
  unfold f_X7_keep at h
  have lkf39 := hts (.fieldLink RX7 39 "TiedToTown" "kept" "I") (List.mem_of_getElem? (i := 1) rfl)
  have hinX7 : ∀ w ∈ wsX70, w ∈ wsX7_keep := fun w h => List.mem_cons_of_mem _ (List.mem_append_left _ (List.mem_append_right _ h))
  have lkf26 := hts (.fieldLink RX7 26 "TiedToTown" "town" "LTiedToTown$Town;") (List.mem_of_getElem? (i := 2) rfl)
  refine lv_aload_n hx hb dX7_keep_0 rfl (lv_at hl 0 rfl) ?_
  refine va_get (D := D) (ci := 7) (v := .int ((X 6).1 6)) (C := RX7) (T := TX7) (N := 12) hx hb hts hinX7 hown hK.1 hP 0 rfl rfl 6 (by decide) lkf39 (fun _ h9 => h9) rfl dX7_keep_1 ?_
  refine lv_iconst (v := (2 : Int32)) hx hb dX7_keep_4 (by decide) ?_
  refine lv_icmp_lt (tgt := 11) hx hb dX7_keep_5 (by decide) (fun hc => ?_) (fun hc => ?_)
  · have h := if_t hc h
    refine lv_aload_n hx hb dX7_keep_11 rfl (lv_at hl 0 rfl) ?_
    refine lv_aload_n hx hb dX7_keep_12 rfl (lv_at hl 0 rfl) ?_
    refine va_get (D := D) (ci := 7) (v := .int ((X 6).1 6)) (C := RX7) (T := TX7) (N := 12) hx hb hts hinX7 hown hK.1 hP 0 rfl rfl 6 (by decide) lkf39 (fun _ h9 => h9) rfl dX7_keep_13 ?_
    obtain ⟨z1, hz1, h⟩ := bd_some h
    refine pA_V (As := [.int ((X 6).1 6)]) (rest := []) (wr := ([] : va_W)) ⟨hx, hb, hml, hown, hts⟩ (c_X7_keptAt l D cA ad X ((X 6).1 6) z1 hz1) (cwV 1 hts gX7_keep_X7_keptAt rfl rfl rfl hd_X7_keptAt ⟨(Nat.le_of_ble_eq_true rfl), (Nat.le_of_ble_eq_true rfl)⟩) (recvK hK hP 0 7 rfl rfl) hK hP perm_nil rfl hl.1 rfl (Nat.le_of_ble_eq_true rfl) dX7_keep_16 ⟨(Nat.le_of_ble_eq_true rfl), (Nat.le_of_ble_eq_true rfl)⟩ ?_
    by_cases hc2 : z1 = 4
    · subst hc2
      have h := if_t rfl h
      refine lv_aload_n hx hb dX7_keep_19 rfl (lv_at hl 0 rfl) ?_
      refine va_get (D := D) (ci := 7) (v := .ref (ad 2 0)) (C := RX7) (T := TX7) (N := 12) hx hb hts hinX7 hown hK.1 hP 0 rfl rfl 2 (by decide) lkf26 (fun _ h9 => h9) rfl dX7_keep_20 ?_
      obtain ⟨z3, hz3, h⟩ := bd_some h
      refine pV_V (As := [.ref (ad 2 0)]) (rest := []) (wr := (tX7 ad (X 6) ++ (wX5 cA (ad 0) (X 0) ++ (wX2 cA (ad 1) (X 1) ++ (wX6 cA (ad 3) (X 3) ++ (wX6 cA (ad 5) (X 5) ++ (wX1 cA (ad 7) (X 7) ++ (wX0 cA (ad 8) (ad 2 0) (X 8) ++ (wX4 cA (ad 9) (X 9) ++ (wX3 cA (ad 10) (X 10) ++ (wX3 cA (ad 11) (X 11)))))))))))) (wn := (wX7 cA ad (sX X 4 z3))) ⟨hx, hb, hml, hown, hts⟩ (c_X6_copy l D cA (ad 4) (X 4) (ad 2) (X 2)   z3 hz3) (cwV 1 hts gX7_keep_X6_copy rfl rfl rfl hd_X6_copy ⟨(Nat.le_of_ble_eq_true rfl), (Nat.le_of_ble_eq_true rfl)⟩) (recvK hK (P_left (wc := wX6 cA (ad 4) (X 4)) (R := (tX7 ad (X 6) ++ (wX5 cA (ad 0) (X 0) ++ (wX2 cA (ad 1) (X 1) ++ (wX6 cA (ad 2) (X 2) ++ (wX6 cA (ad 3) (X 3) ++ (wX6 cA (ad 5) (X 5) ++ (wX1 cA (ad 7) (X 7) ++ (wX0 cA (ad 8) (ad 2 0) (X 8) ++ (wX4 cA (ad 9) (X 9) ++ (wX3 cA (ad 10) (X 10) ++ (wX3 cA (ad 11) (X 11))))))))))))) (perm_of (fun c hc => by unfold wX7 wX7b; simp only [hc]; omega)) hP) 0 6 rfl rfl) hK hP hD hS hA (perm_of (fun c hc => by unfold wX7 wX7b; simp only [hc]; omega)) (perm_of (fun c hc => by rw [show wX7 cA ad (sX X 4 z3) = wX7b cA ad (X 0) (X 1) (X 2) (X 3) z3 (X 5) (X 6) (X 7) (X 8) (X 9) (X 10) (X 11) from rfl]; unfold wX7b; simp only [hc]; omega)) rfl hl.1 rfl (Nat.le_of_ble_eq_true rfl) dX7_keep_23 ⟨(Nat.le_of_ble_eq_true rfl), (Nat.le_of_ble_eq_true rfl)⟩ (fun H locs hP hD hS => ?_)
      obtain ⟨s4, es4⟩ : ∃ z, z = sX X 4 z3 := ⟨_, rfl⟩
      rw [← es4] at hP hD
      have h := nm_ap es4 h
      refine lv_aload_n hx hb dX7_keep_26 rfl (lv_at hl 0 rfl) ?_
      refine lv_dup hx hb dX7_keep_27 rfl ?_
      refine va_get (D := D) (ci := 7) (v := .int ((s4 6).1 6)) (C := RX7) (T := TX7) (N := 12) hx hb hts hinX7 hown hK.1 hP 0 rfl rfl 6 (by decide) lkf39 (fun _ h9 => h9) rfl dX7_keep_28 ?_
      refine lv_iconst (v := (1 : Int32)) hx hb dX7_keep_31 (by decide) ?_
      refine lv_iadd hx hb dX7_keep_32 ?_
      refine va_put (D := D) (ci := 7) (v := .int (((s4 6).1 6) + (1 : Int32))) (ty := .int) (C := RX7) (T := TX7) (N := 12) hx hb hts hinX7 tyX7 tyX7_ok nmX7 hown hK.1 hP hD hS 0 rfl rfl 6 (by decide) lkf39 (fun _ h9 => h9) rfl (by decide +kernel) rfl rfl (Nat.le_of_ble_eq_true rfl) dX7_keep_33 (fun H locs hP hD hS => ?_)
      have hP : va_P D vwCl (wX7 cA ad (sX s4 6 (sF (s4 6) 6 (((s4 6).1 6) + (1 : Int32))))) H := hP
      have hD : va_D A (wX7 cA ad (sX s4 6 (sF (s4 6) 6 (((s4 6).1 6) + (1 : Int32))))) := hD
      obtain ⟨s5, es5⟩ : ∃ z, z = sX s4 6 (sF (s4 6) 6 (((s4 6).1 6) + (1 : Int32))) := ⟨_, rfl⟩
      rw [← es5] at hP hD
      have h := nm_ap es5 h
      refine lv_aload_n hx hb dX7_keep_36 rfl (lv_at hl 0 rfl) ?_
      refine va_get (D := D) (ci := 7) (v := .int ((s5 6).1 6)) (C := RX7) (T := TX7) (N := 12) hx hb hts hinX7 hown hK.1 hP 0 rfl rfl 6 (by decide) lkf39 (fun _ h9 => h9) rfl dX7_keep_37 ?_
      cases h
      exact hend _ _ _ _ hP hD hS dX7_keep_40
    have h := if_f hc2 h
    by_cases hc6 : z1 = 5
    · subst hc6
      have h := if_t rfl h
      refine lv_aload_n hx hb dX7_keep_19 rfl (lv_at hl 0 rfl) ?_
      refine va_get (D := D) (ci := 7) (v := .ref (ad 2 0)) (C := RX7) (T := TX7) (N := 12) hx hb hts hinX7 hown hK.1 hP 0 rfl rfl 2 (by decide) lkf26 (fun _ h9 => h9) rfl dX7_keep_20 ?_
      obtain ⟨z7, hz7, h⟩ := bd_some h
      refine pV_V (As := [.ref (ad 2 0)]) (rest := []) (wr := (tX7 ad (X 6) ++ (wX5 cA (ad 0) (X 0) ++ (wX2 cA (ad 1) (X 1) ++ (wX6 cA (ad 3) (X 3) ++ (wX6 cA (ad 4) (X 4) ++ (wX1 cA (ad 7) (X 7) ++ (wX0 cA (ad 8) (ad 2 0) (X 8) ++ (wX4 cA (ad 9) (X 9) ++ (wX3 cA (ad 10) (X 10) ++ (wX3 cA (ad 11) (X 11)))))))))))) (wn := (wX7 cA ad (sX X 5 z7))) ⟨hx, hb, hml, hown, hts⟩ (c_X6_copy l D cA (ad 5) (X 5) (ad 2) (X 2)   z7 hz7) (cwV 1 hts gX7_keep_X6_copy rfl rfl rfl hd_X6_copy ⟨(Nat.le_of_ble_eq_true rfl), (Nat.le_of_ble_eq_true rfl)⟩) (recvK hK (P_left (wc := wX6 cA (ad 5) (X 5)) (R := (tX7 ad (X 6) ++ (wX5 cA (ad 0) (X 0) ++ (wX2 cA (ad 1) (X 1) ++ (wX6 cA (ad 2) (X 2) ++ (wX6 cA (ad 3) (X 3) ++ (wX6 cA (ad 4) (X 4) ++ (wX1 cA (ad 7) (X 7) ++ (wX0 cA (ad 8) (ad 2 0) (X 8) ++ (wX4 cA (ad 9) (X 9) ++ (wX3 cA (ad 10) (X 10) ++ (wX3 cA (ad 11) (X 11))))))))))))) (perm_of (fun c hc => by unfold wX7 wX7b; simp only [hc]; omega)) hP) 0 6 rfl rfl) hK hP hD hS hA (perm_of (fun c hc => by unfold wX7 wX7b; simp only [hc]; omega)) (perm_of (fun c hc => by rw [show wX7 cA ad (sX X 5 z7) = wX7b cA ad (X 0) (X 1) (X 2) (X 3) (X 4) z7 (X 6) (X 7) (X 8) (X 9) (X 10) (X 11) from rfl]; unfold wX7b; simp only [hc]; omega)) rfl hl.1 rfl (Nat.le_of_ble_eq_true rfl) dX7_keep_23 ⟨(Nat.le_of_ble_eq_true rfl), (Nat.le_of_ble_eq_true rfl)⟩ (fun H locs hP hD hS => ?_)
      obtain ⟨s8, es8⟩ : ∃ z, z = sX X 5 z7 := ⟨_, rfl⟩
      rw [← es8] at hP hD
      have h := nm_ap es8 h
      refine lv_aload_n hx hb dX7_keep_26 rfl (lv_at hl 0 rfl) ?_
      refine lv_dup hx hb dX7_keep_27 rfl ?_
      refine va_get (D := D) (ci := 7) (v := .int ((s8 6).1 6)) (C := RX7) (T := TX7) (N := 12) hx hb hts hinX7 hown hK.1 hP 0 rfl rfl 6 (by decide) lkf39 (fun _ h9 => h9) rfl dX7_keep_28 ?_
      refine lv_iconst (v := (1 : Int32)) hx hb dX7_keep_31 (by decide) ?_
      refine lv_iadd hx hb dX7_keep_32 ?_
      refine va_put (D := D) (ci := 7) (v := .int (((s8 6).1 6) + (1 : Int32))) (ty := .int) (C := RX7) (T := TX7) (N := 12) hx hb hts hinX7 tyX7 tyX7_ok nmX7 hown hK.1 hP hD hS 0 rfl rfl 6 (by decide) lkf39 (fun _ h9 => h9) rfl (by decide +kernel) rfl rfl (Nat.le_of_ble_eq_true rfl) dX7_keep_33 (fun H locs hP hD hS => ?_)
      have hP : va_P D vwCl (wX7 cA ad (sX s8 6 (sF (s8 6) 6 (((s8 6).1 6) + (1 : Int32))))) H := hP
      have hD : va_D A (wX7 cA ad (sX s8 6 (sF (s8 6) 6 (((s8 6).1 6) + (1 : Int32))))) := hD
      obtain ⟨s9, es9⟩ : ∃ z, z = sX s8 6 (sF (s8 6) 6 (((s8 6).1 6) + (1 : Int32))) := ⟨_, rfl⟩
      rw [← es9] at hP hD
      have h := nm_ap es9 h
      refine lv_aload_n hx hb dX7_keep_36 rfl (lv_at hl 0 rfl) ?_
      refine va_get (D := D) (ci := 7) (v := .int ((s9 6).1 6)) (C := RX7) (T := TX7) (N := 12) hx hb hts hinX7 hown hK.1 hP 0 rfl rfl 6 (by decide) lkf39 (fun _ h9 => h9) rfl dX7_keep_37 ?_
      cases h
      exact hend _ _ _ _ hP hD hS dX7_keep_40
    have h := if_f hc6 h
    cases h
  · have h := if_f hc h
    refine lv_bipush (v := (-3 : Int32)) hx hb dX7_keep_8 (by decide) ?_
    cases h
    exact hend _ _ _ _ hP hD hS dX7_keep_10
abbrev rmX7_back : Room := ({ frames := 1, cells := 0, slots := 0, locals := 22 } : Room)
set_option maxHeartbeats 4000000 in
set_option maxRecDepth 100000 in
theorem c_X7_back (l : Launch) (D : va_G) (cA : ClassId) (ad : (Nat → Nat → Nat)) (X : (Nat → Ob)) (r : Int32) (X_ : (Nat → Ob)) (h : f_X7_back X = some (r, X_)) : ConW l yX7_back wsX7_back rmX7_back D cA [.ref (ad 6 0)] (wX7 cA ad X) r (wX7 cA ad X_) := by
  refine ConW.enter (cc := cX7_back) (maxL := 1) (by decide) rfl (Nat.le_of_ble_eq_true rfl) ?_
  intro p e s m args below meth c Q A hx hb hml hown hts hK hP hD hA hend ls hl
  have hS : va_S A s.heap s.heap [] := va_S.rf
  have hl : lv_has ls 1 [(0, .ref (ad 6 0))] := hl
  unfold f_X7_back at h
  have lkf39 := hts (.fieldLink RX7 39 "TiedToTown" "kept" "I") (List.mem_of_getElem? (i := 1) rfl)
  have hinX7 : ∀ w ∈ wsX70, w ∈ wsX7_back := fun w h => List.mem_cons_of_mem _ (List.mem_append_left _ (List.mem_append_left _ (List.mem_append_left _ (List.mem_append_right _ h))))
  have lkf26 := hts (.fieldLink RX7 26 "TiedToTown" "town" "LTiedToTown$Town;") (List.mem_of_getElem? (i := 2) rfl)
  have lkf46 := hts (.fieldLink RX7 46 "TiedToTown" "past" "LTiedToTown$Past;") (List.mem_of_getElem? (i := 3) rfl)
  have lkf62 := hts (.fieldLink RX7 62 "TiedToTown" "row" "LTiedToTown$Row;") (List.mem_of_getElem? (i := 4) rfl)
  refine lv_aload_n hx hb dX7_back_0 rfl (lv_at hl 0 rfl) ?_
  refine va_get (D := D) (ci := 7) (v := .int ((X 6).1 6)) (C := RX7) (T := TX7) (N := 12) hx hb hts hinX7 hown hK.1 hP 0 rfl rfl 6 (by decide) lkf39 (fun _ h9 => h9) rfl dX7_back_1 ?_
  refine lv_iconst (v := (1 : Int32)) hx hb dX7_back_4 (by decide) ?_
  refine lv_icmp_ge (tgt := 11) hx hb dX7_back_5 (by decide) (fun hc => ?_) (fun hc => ?_)
  · have h := if_t hc h
    refine lv_aload_n hx hb dX7_back_11 rfl (lv_at hl 0 rfl) ?_
    refine lv_dup hx hb dX7_back_12 rfl ?_
    refine va_get (D := D) (ci := 7) (v := .int ((X 6).1 6)) (C := RX7) (T := TX7) (N := 12) hx hb hts hinX7 hown hK.1 hP 0 rfl rfl 6 (by decide) lkf39 (fun _ h9 => h9) rfl dX7_back_13 ?_
    refine lv_iconst (v := (1 : Int32)) hx hb dX7_back_16 (by decide) ?_
    refine lv_isub hx hb dX7_back_17 ?_
    refine va_put (D := D) (ci := 7) (v := .int (((X 6).1 6) - (1 : Int32))) (ty := .int) (C := RX7) (T := TX7) (N := 12) hx hb hts hinX7 tyX7 tyX7_ok nmX7 hown hK.1 hP hD hS 0 rfl rfl 6 (by decide) lkf39 (fun _ h9 => h9) rfl (by decide +kernel) rfl rfl (Nat.le_of_ble_eq_true rfl) dX7_back_18 (fun H locs hP hD hS => ?_)
    have hP : va_P D vwCl (wX7 cA ad (sX X 6 (sF (X 6) 6 (((X 6).1 6) - (1 : Int32))))) H := hP
    have hD : va_D A (wX7 cA ad (sX X 6 (sF (X 6) 6 (((X 6).1 6) - (1 : Int32))))) := hD
    obtain ⟨s1, es1⟩ : ∃ z, z = sX X 6 (sF (X 6) 6 (((X 6).1 6) - (1 : Int32))) := ⟨_, rfl⟩
    rw [← es1] at hP hD
    have h := nm_ap es1 h
    refine lv_aload_n hx hb dX7_back_21 rfl (lv_at hl 0 rfl) ?_
    refine va_get (D := D) (ci := 7) (v := .ref (ad 2 0)) (C := RX7) (T := TX7) (N := 12) hx hb hts hinX7 hown hK.1 hP 0 rfl rfl 2 (by decide) lkf26 (fun _ h9 => h9) rfl dX7_back_22 ?_
    refine lv_aload_n hx hb dX7_back_25 rfl (lv_at hl 0 rfl) ?_
    refine lv_aload_n hx hb dX7_back_26 rfl (lv_at hl 0 rfl) ?_
    refine va_get (D := D) (ci := 7) (v := .int ((s1 6).1 6)) (C := RX7) (T := TX7) (N := 12) hx hb hts hinX7 hown hK.1 hP 0 rfl rfl 6 (by decide) lkf39 (fun _ h9 => h9) rfl dX7_back_27 ?_
    obtain ⟨z2, hz2, h⟩ := bd_some h
    refine pA_V (As := [.int ((s1 6).1 6)]) (rest := [.ref (ad 2 0)]) (wr := ([] : va_W)) ⟨hx, hb, hml, hown, hts⟩ (c_X7_keptAt l D cA ad s1 ((s1 6).1 6) z2 hz2) (cwV 1 hts gX7_back_X7_keptAt rfl rfl rfl hd_X7_keptAt ⟨(Nat.le_of_ble_eq_true rfl), (Nat.le_of_ble_eq_true rfl)⟩) (recvK hK hP 0 7 rfl rfl) hK hP perm_nil rfl hl.1 rfl (Nat.le_of_ble_eq_true rfl) dX7_back_30 ⟨(Nat.le_of_ble_eq_true rfl), (Nat.le_of_ble_eq_true rfl)⟩ ?_
    by_cases hc3 : z2 = 4
    · subst hc3
      have h := if_t rfl h
      obtain ⟨z4, hz4, h⟩ := bd_some h
      refine pV_V (As := [.ref (ad 4 0)]) (rest := []) (wr := (tX7 ad (s1 6) ++ (wX5 cA (ad 0) (s1 0) ++ (wX2 cA (ad 1) (s1 1) ++ (wX6 cA (ad 3) (s1 3) ++ (wX6 cA (ad 5) (s1 5) ++ (wX1 cA (ad 7) (s1 7) ++ (wX0 cA (ad 8) (ad 2 0) (s1 8) ++ (wX4 cA (ad 9) (s1 9) ++ (wX3 cA (ad 10) (s1 10) ++ (wX3 cA (ad 11) (s1 11)))))))))))) (wn := (wX7 cA ad (sX s1 2 z4))) ⟨hx, hb, hml, hown, hts⟩ (c_X6_copy l D cA (ad 2) (s1 2) (ad 4) (s1 4)   z4 hz4) (cwV 1 hts gX7_back_X6_copy rfl rfl rfl hd_X6_copy ⟨(Nat.le_of_ble_eq_true rfl), (Nat.le_of_ble_eq_true rfl)⟩) (recvK hK (P_left (wc := wX6 cA (ad 2) (s1 2)) (R := (tX7 ad (s1 6) ++ (wX5 cA (ad 0) (s1 0) ++ (wX2 cA (ad 1) (s1 1) ++ (wX6 cA (ad 3) (s1 3) ++ (wX6 cA (ad 4) (s1 4) ++ (wX6 cA (ad 5) (s1 5) ++ (wX1 cA (ad 7) (s1 7) ++ (wX0 cA (ad 8) (ad 2 0) (s1 8) ++ (wX4 cA (ad 9) (s1 9) ++ (wX3 cA (ad 10) (s1 10) ++ (wX3 cA (ad 11) (s1 11))))))))))))) (perm_of (fun c hc => by unfold wX7 wX7b; simp only [hc]; omega)) hP) 0 6 rfl rfl) hK hP hD hS hA (perm_of (fun c hc => by unfold wX7 wX7b; simp only [hc]; omega)) (perm_of (fun c hc => by rw [show wX7 cA ad (sX s1 2 z4) = wX7b cA ad (s1 0) (s1 1) z4 (s1 3) (s1 4) (s1 5) (s1 6) (s1 7) (s1 8) (s1 9) (s1 10) (s1 11) from rfl]; unfold wX7b; simp only [hc]; omega)) rfl hl.1 rfl (Nat.le_of_ble_eq_true rfl) dX7_back_33 ⟨(Nat.le_of_ble_eq_true rfl), (Nat.le_of_ble_eq_true rfl)⟩ (fun H locs hP hD hS => ?_)
      obtain ⟨s5, es5⟩ : ∃ z, z = sX s1 2 z4 := ⟨_, rfl⟩
      rw [← es5] at hP hD
      have h := nm_ap es5 h
      refine lv_aload_n hx hb dX7_back_36 rfl (lv_at hl 0 rfl) ?_
      refine va_get (D := D) (ci := 7) (v := .ref (ad 7 0)) (C := RX7) (T := TX7) (N := 12) hx hb hts hinX7 hown hK.1 hP 0 rfl rfl 7 (by decide) lkf46 (fun _ h9 => h9) rfl dX7_back_37 ?_
      obtain ⟨z6, hz6, h⟩ := bd_some h
      refine pV_V (As := []) (rest := []) (wr := (tX7 ad (s5 6) ++ (wX5 cA (ad 0) (s5 0) ++ (wX2 cA (ad 1) (s5 1) ++ (wX6 cA (ad 2) (s5 2) ++ (wX6 cA (ad 3) (s5 3) ++ (wX6 cA (ad 4) (s5 4) ++ (wX6 cA (ad 5) (s5 5) ++ (wX0 cA (ad 8) (ad 2 0) (s5 8) ++ (wX4 cA (ad 9) (s5 9) ++ (wX3 cA (ad 10) (s5 10) ++ (wX3 cA (ad 11) (s5 11))))))))))))) (wn := (wX7 cA ad (sX s5 7 z6))) ⟨hx, hb, hml, hown, hts⟩ (c_X1_empty l D cA (ad 7) (s5 7)   z6 hz6) (cwV 0 hts gX7_back_X1_empty rfl rfl rfl hd_X1_empty ⟨(Nat.le_of_ble_eq_true rfl), (Nat.le_of_ble_eq_true rfl)⟩) (recvK hK (P_left (wc := wX1 cA (ad 7) (s5 7)) (R := (tX7 ad (s5 6) ++ (wX5 cA (ad 0) (s5 0) ++ (wX2 cA (ad 1) (s5 1) ++ (wX6 cA (ad 2) (s5 2) ++ (wX6 cA (ad 3) (s5 3) ++ (wX6 cA (ad 4) (s5 4) ++ (wX6 cA (ad 5) (s5 5) ++ (wX0 cA (ad 8) (ad 2 0) (s5 8) ++ (wX4 cA (ad 9) (s5 9) ++ (wX3 cA (ad 10) (s5 10) ++ (wX3 cA (ad 11) (s5 11))))))))))))) (perm_of (fun c hc => by unfold wX7 wX7b; simp only [hc]; omega)) hP) 0 1 rfl rfl) hK hP hD hS hA (perm_of (fun c hc => by unfold wX7 wX7b; simp only [hc]; omega)) (perm_of (fun c hc => by rw [show wX7 cA ad (sX s5 7 z6) = wX7b cA ad (s5 0) (s5 1) (s5 2) (s5 3) (s5 4) (s5 5) (s5 6) z6 (s5 8) (s5 9) (s5 10) (s5 11) from rfl]; unfold wX7b; simp only [hc]; omega)) rfl hl.1 rfl (Nat.le_of_ble_eq_true rfl) dX7_back_40 ⟨(Nat.le_of_ble_eq_true rfl), (Nat.le_of_ble_eq_true rfl)⟩ (fun H locs hP hD hS => ?_)
      obtain ⟨s7, es7⟩ : ∃ z, z = sX s5 7 z6 := ⟨_, rfl⟩
      rw [← es7] at hP hD
      have h := nm_ap es7 h
      refine lv_aload_n hx hb dX7_back_43 rfl (lv_at hl 0 rfl) ?_
      refine va_get (D := D) (ci := 7) (v := .ref (ad 9 0)) (C := RX7) (T := TX7) (N := 12) hx hb hts hinX7 hown hK.1 hP 0 rfl rfl 9 (by decide) lkf62 (fun _ h9 => h9) rfl dX7_back_44 ?_
      obtain ⟨z8, hz8, h⟩ := bd_some h
      refine pV_V (As := []) (rest := []) (wr := (tX7 ad (s7 6) ++ (wX5 cA (ad 0) (s7 0) ++ (wX2 cA (ad 1) (s7 1) ++ (wX6 cA (ad 2) (s7 2) ++ (wX6 cA (ad 3) (s7 3) ++ (wX6 cA (ad 4) (s7 4) ++ (wX6 cA (ad 5) (s7 5) ++ (wX1 cA (ad 7) (s7 7) ++ (wX0 cA (ad 8) (ad 2 0) (s7 8) ++ (wX3 cA (ad 10) (s7 10) ++ (wX3 cA (ad 11) (s7 11))))))))))))) (wn := (wX7 cA ad (sX s7 9 z8))) ⟨hx, hb, hml, hown, hts⟩ (c_X4_empty l D cA (ad 9) (s7 9)   z8 hz8) (cwV 0 hts gX7_back_X4_empty rfl rfl rfl hd_X4_empty ⟨(Nat.le_of_ble_eq_true rfl), (Nat.le_of_ble_eq_true rfl)⟩) (recvK hK (P_left (wc := wX4 cA (ad 9) (s7 9)) (R := (tX7 ad (s7 6) ++ (wX5 cA (ad 0) (s7 0) ++ (wX2 cA (ad 1) (s7 1) ++ (wX6 cA (ad 2) (s7 2) ++ (wX6 cA (ad 3) (s7 3) ++ (wX6 cA (ad 4) (s7 4) ++ (wX6 cA (ad 5) (s7 5) ++ (wX1 cA (ad 7) (s7 7) ++ (wX0 cA (ad 8) (ad 2 0) (s7 8) ++ (wX3 cA (ad 10) (s7 10) ++ (wX3 cA (ad 11) (s7 11))))))))))))) (perm_of (fun c hc => by unfold wX7 wX7b; simp only [hc]; omega)) hP) 0 4 rfl rfl) hK hP hD hS hA (perm_of (fun c hc => by unfold wX7 wX7b; simp only [hc]; omega)) (perm_of (fun c hc => by rw [show wX7 cA ad (sX s7 9 z8) = wX7b cA ad (s7 0) (s7 1) (s7 2) (s7 3) (s7 4) (s7 5) (s7 6) (s7 7) (s7 8) z8 (s7 10) (s7 11) from rfl]; unfold wX7b; simp only [hc]; omega)) rfl hl.1 rfl (Nat.le_of_ble_eq_true rfl) dX7_back_47 ⟨(Nat.le_of_ble_eq_true rfl), (Nat.le_of_ble_eq_true rfl)⟩ (fun H locs hP hD hS => ?_)
      obtain ⟨s9, es9⟩ : ∃ z, z = sX s7 9 z8 := ⟨_, rfl⟩
      rw [← es9] at hP hD
      have h := nm_ap es9 h
      refine lv_aload_n hx hb dX7_back_50 rfl (lv_at hl 0 rfl) ?_
      refine va_get (D := D) (ci := 7) (v := .int ((s9 6).1 6)) (C := RX7) (T := TX7) (N := 12) hx hb hts hinX7 hown hK.1 hP 0 rfl rfl 6 (by decide) lkf39 (fun _ h9 => h9) rfl dX7_back_51 ?_
      cases h
      exact hend _ _ _ _ hP hD hS dX7_back_54
    have h := if_f hc3 h
    by_cases hc10 : z2 = 5
    · subst hc10
      have h := if_t rfl h
      obtain ⟨z11, hz11, h⟩ := bd_some h
      refine pV_V (As := [.ref (ad 5 0)]) (rest := []) (wr := (tX7 ad (s1 6) ++ (wX5 cA (ad 0) (s1 0) ++ (wX2 cA (ad 1) (s1 1) ++ (wX6 cA (ad 3) (s1 3) ++ (wX6 cA (ad 4) (s1 4) ++ (wX1 cA (ad 7) (s1 7) ++ (wX0 cA (ad 8) (ad 2 0) (s1 8) ++ (wX4 cA (ad 9) (s1 9) ++ (wX3 cA (ad 10) (s1 10) ++ (wX3 cA (ad 11) (s1 11)))))))))))) (wn := (wX7 cA ad (sX s1 2 z11))) ⟨hx, hb, hml, hown, hts⟩ (c_X6_copy l D cA (ad 2) (s1 2) (ad 5) (s1 5)   z11 hz11) (cwV 1 hts gX7_back_X6_copy rfl rfl rfl hd_X6_copy ⟨(Nat.le_of_ble_eq_true rfl), (Nat.le_of_ble_eq_true rfl)⟩) (recvK hK (P_left (wc := wX6 cA (ad 2) (s1 2)) (R := (tX7 ad (s1 6) ++ (wX5 cA (ad 0) (s1 0) ++ (wX2 cA (ad 1) (s1 1) ++ (wX6 cA (ad 3) (s1 3) ++ (wX6 cA (ad 4) (s1 4) ++ (wX6 cA (ad 5) (s1 5) ++ (wX1 cA (ad 7) (s1 7) ++ (wX0 cA (ad 8) (ad 2 0) (s1 8) ++ (wX4 cA (ad 9) (s1 9) ++ (wX3 cA (ad 10) (s1 10) ++ (wX3 cA (ad 11) (s1 11))))))))))))) (perm_of (fun c hc => by unfold wX7 wX7b; simp only [hc]; omega)) hP) 0 6 rfl rfl) hK hP hD hS hA (perm_of (fun c hc => by unfold wX7 wX7b; simp only [hc]; omega)) (perm_of (fun c hc => by rw [show wX7 cA ad (sX s1 2 z11) = wX7b cA ad (s1 0) (s1 1) z11 (s1 3) (s1 4) (s1 5) (s1 6) (s1 7) (s1 8) (s1 9) (s1 10) (s1 11) from rfl]; unfold wX7b; simp only [hc]; omega)) rfl hl.1 rfl (Nat.le_of_ble_eq_true rfl) dX7_back_33 ⟨(Nat.le_of_ble_eq_true rfl), (Nat.le_of_ble_eq_true rfl)⟩ (fun H locs hP hD hS => ?_)
      obtain ⟨s12, es12⟩ : ∃ z, z = sX s1 2 z11 := ⟨_, rfl⟩
      rw [← es12] at hP hD
      have h := nm_ap es12 h
      refine lv_aload_n hx hb dX7_back_36 rfl (lv_at hl 0 rfl) ?_
      refine va_get (D := D) (ci := 7) (v := .ref (ad 7 0)) (C := RX7) (T := TX7) (N := 12) hx hb hts hinX7 hown hK.1 hP 0 rfl rfl 7 (by decide) lkf46 (fun _ h9 => h9) rfl dX7_back_37 ?_
      obtain ⟨z13, hz13, h⟩ := bd_some h
      refine pV_V (As := []) (rest := []) (wr := (tX7 ad (s12 6) ++ (wX5 cA (ad 0) (s12 0) ++ (wX2 cA (ad 1) (s12 1) ++ (wX6 cA (ad 2) (s12 2) ++ (wX6 cA (ad 3) (s12 3) ++ (wX6 cA (ad 4) (s12 4) ++ (wX6 cA (ad 5) (s12 5) ++ (wX0 cA (ad 8) (ad 2 0) (s12 8) ++ (wX4 cA (ad 9) (s12 9) ++ (wX3 cA (ad 10) (s12 10) ++ (wX3 cA (ad 11) (s12 11))))))))))))) (wn := (wX7 cA ad (sX s12 7 z13))) ⟨hx, hb, hml, hown, hts⟩ (c_X1_empty l D cA (ad 7) (s12 7)   z13 hz13) (cwV 0 hts gX7_back_X1_empty rfl rfl rfl hd_X1_empty ⟨(Nat.le_of_ble_eq_true rfl), (Nat.le_of_ble_eq_true rfl)⟩) (recvK hK (P_left (wc := wX1 cA (ad 7) (s12 7)) (R := (tX7 ad (s12 6) ++ (wX5 cA (ad 0) (s12 0) ++ (wX2 cA (ad 1) (s12 1) ++ (wX6 cA (ad 2) (s12 2) ++ (wX6 cA (ad 3) (s12 3) ++ (wX6 cA (ad 4) (s12 4) ++ (wX6 cA (ad 5) (s12 5) ++ (wX0 cA (ad 8) (ad 2 0) (s12 8) ++ (wX4 cA (ad 9) (s12 9) ++ (wX3 cA (ad 10) (s12 10) ++ (wX3 cA (ad 11) (s12 11))))))))))))) (perm_of (fun c hc => by unfold wX7 wX7b; simp only [hc]; omega)) hP) 0 1 rfl rfl) hK hP hD hS hA (perm_of (fun c hc => by unfold wX7 wX7b; simp only [hc]; omega)) (perm_of (fun c hc => by rw [show wX7 cA ad (sX s12 7 z13) = wX7b cA ad (s12 0) (s12 1) (s12 2) (s12 3) (s12 4) (s12 5) (s12 6) z13 (s12 8) (s12 9) (s12 10) (s12 11) from rfl]; unfold wX7b; simp only [hc]; omega)) rfl hl.1 rfl (Nat.le_of_ble_eq_true rfl) dX7_back_40 ⟨(Nat.le_of_ble_eq_true rfl), (Nat.le_of_ble_eq_true rfl)⟩ (fun H locs hP hD hS => ?_)
      obtain ⟨s14, es14⟩ : ∃ z, z = sX s12 7 z13 := ⟨_, rfl⟩
      rw [← es14] at hP hD
      have h := nm_ap es14 h
      refine lv_aload_n hx hb dX7_back_43 rfl (lv_at hl 0 rfl) ?_
      refine va_get (D := D) (ci := 7) (v := .ref (ad 9 0)) (C := RX7) (T := TX7) (N := 12) hx hb hts hinX7 hown hK.1 hP 0 rfl rfl 9 (by decide) lkf62 (fun _ h9 => h9) rfl dX7_back_44 ?_
      obtain ⟨z15, hz15, h⟩ := bd_some h
      refine pV_V (As := []) (rest := []) (wr := (tX7 ad (s14 6) ++ (wX5 cA (ad 0) (s14 0) ++ (wX2 cA (ad 1) (s14 1) ++ (wX6 cA (ad 2) (s14 2) ++ (wX6 cA (ad 3) (s14 3) ++ (wX6 cA (ad 4) (s14 4) ++ (wX6 cA (ad 5) (s14 5) ++ (wX1 cA (ad 7) (s14 7) ++ (wX0 cA (ad 8) (ad 2 0) (s14 8) ++ (wX3 cA (ad 10) (s14 10) ++ (wX3 cA (ad 11) (s14 11))))))))))))) (wn := (wX7 cA ad (sX s14 9 z15))) ⟨hx, hb, hml, hown, hts⟩ (c_X4_empty l D cA (ad 9) (s14 9)   z15 hz15) (cwV 0 hts gX7_back_X4_empty rfl rfl rfl hd_X4_empty ⟨(Nat.le_of_ble_eq_true rfl), (Nat.le_of_ble_eq_true rfl)⟩) (recvK hK (P_left (wc := wX4 cA (ad 9) (s14 9)) (R := (tX7 ad (s14 6) ++ (wX5 cA (ad 0) (s14 0) ++ (wX2 cA (ad 1) (s14 1) ++ (wX6 cA (ad 2) (s14 2) ++ (wX6 cA (ad 3) (s14 3) ++ (wX6 cA (ad 4) (s14 4) ++ (wX6 cA (ad 5) (s14 5) ++ (wX1 cA (ad 7) (s14 7) ++ (wX0 cA (ad 8) (ad 2 0) (s14 8) ++ (wX3 cA (ad 10) (s14 10) ++ (wX3 cA (ad 11) (s14 11))))))))))))) (perm_of (fun c hc => by unfold wX7 wX7b; simp only [hc]; omega)) hP) 0 4 rfl rfl) hK hP hD hS hA (perm_of (fun c hc => by unfold wX7 wX7b; simp only [hc]; omega)) (perm_of (fun c hc => by rw [show wX7 cA ad (sX s14 9 z15) = wX7b cA ad (s14 0) (s14 1) (s14 2) (s14 3) (s14 4) (s14 5) (s14 6) (s14 7) (s14 8) z15 (s14 10) (s14 11) from rfl]; unfold wX7b; simp only [hc]; omega)) rfl hl.1 rfl (Nat.le_of_ble_eq_true rfl) dX7_back_47 ⟨(Nat.le_of_ble_eq_true rfl), (Nat.le_of_ble_eq_true rfl)⟩ (fun H locs hP hD hS => ?_)
      obtain ⟨s16, es16⟩ : ∃ z, z = sX s14 9 z15 := ⟨_, rfl⟩
      rw [← es16] at hP hD
      have h := nm_ap es16 h
      refine lv_aload_n hx hb dX7_back_50 rfl (lv_at hl 0 rfl) ?_
      refine va_get (D := D) (ci := 7) (v := .int ((s16 6).1 6)) (C := RX7) (T := TX7) (N := 12) hx hb hts hinX7 hown hK.1 hP 0 rfl rfl 6 (by decide) lkf39 (fun _ h9 => h9) rfl dX7_back_51 ?_
      cases h
      exact hend _ _ _ _ hP hD hS dX7_back_54
    have h := if_f hc10 h
    cases h
  · have h := if_f hc h
    refine lv_bipush (v := (-2 : Int32)) hx hb dX7_back_8 (by decide) ?_
    cases h
    exact hend _ _ _ _ hP hD hS dX7_back_10
abbrev rmX7_count : Room := ({ frames := 1, cells := 0, slots := 0, locals := 20 } : Room)
set_option maxHeartbeats 4000000 in
set_option maxRecDepth 100000 in
theorem c_X7_count (l : Launch) (D : va_G) (cA : ClassId) (ad : (Nat → Nat → Nat)) (X : (Nat → Ob)) (x1 : Int32) (r : Int32) (h : f_X7_count X x1 = some r) : ConR l yX7_count wsX7_count rmX7_count D cA [.ref (ad 6 0), .int x1] (wX7 cA ad X) r := by
  refine ConR.enter (cc := cX7_count) (maxL := 2) (by decide) rfl (Nat.le_of_ble_eq_true rfl) ?_
  intro p e s m args below meth c Q hx hb hml hown hts hK hP  hend ls hl
  have hl : lv_has ls 2 [(0, .ref (ad 6 0)), (1, .int x1)] := hl
  unfold f_X7_count at h
  have lkf26 := hts (.fieldLink RX7 26 "TiedToTown" "town" "LTiedToTown$Town;") (List.mem_of_getElem? (i := 1) rfl)
  have hinX7 : ∀ w ∈ wsX70, w ∈ wsX7_count := fun w h => List.mem_cons_of_mem _ (List.mem_append_left _ (List.mem_append_left _ (List.mem_append_left _ (List.mem_append_left _ (List.mem_append_right _ h)))))
  have lkf259 := va_Nw.use (w := Cond.fieldLinkNest RX7 259 "TiedToTown$Town" "persons" "I" "TiedToTown") rfl (A := args) (hK.2 _ (List.mem_of_getElem? (i := 11) rfl))
  have hinX6 : ∀ w ∈ wsX60, w ∈ wsX7_count := fun w h => List.mem_cons_of_mem _ (List.mem_append_left _ (List.mem_append_left _ (List.mem_append_left _ (List.mem_append_right _ h))))
  have lkf99 := va_Nw.use (w := Cond.fieldLinkNest RX7 99 "TiedToTown$Town" "knots" "I" "TiedToTown") rfl (A := args) (hK.2 _ (List.mem_of_getElem? (i := 16) rfl))
  have lkf127 := va_Nw.use (w := Cond.fieldLinkNest RX7 127 "TiedToTown$Town" "tied" "I" "TiedToTown") rfl (A := args) (hK.2 _ (List.mem_of_getElem? (i := 20) rfl))
  have lkf177 := va_Nw.use (w := Cond.fieldLinkNest RX7 177 "TiedToTown$Town" "day" "I" "TiedToTown") rfl (A := args) (hK.2 _ (List.mem_of_getElem? (i := 23) rfl))
  have lkf62 := hts (.fieldLink RX7 62 "TiedToTown" "row" "LTiedToTown$Row;") (List.mem_of_getElem? (i := 2) rfl)
  have lkf46 := hts (.fieldLink RX7 46 "TiedToTown" "past" "LTiedToTown$Past;") (List.mem_of_getElem? (i := 3) rfl)
  have lkf39 := hts (.fieldLink RX7 39 "TiedToTown" "kept" "I") (List.mem_of_getElem? (i := 4) rfl)
  have lkf10 := hts (.fieldLink RX7 10 "TiedToTown" "text" "LTiedToTown$Text;") (List.mem_of_getElem? (i := 5) rfl)
  have lkf262 := va_Nw.use (w := Cond.fieldLinkNest RX7 262 "TiedToTown$Town" "law" "I" "TiedToTown") rfl (A := args) (hK.2 _ (List.mem_of_getElem? (i := 14) rfl))
  refine lv_iload_n hx hb dX7_count_0 rfl (lv_at hl 1 rfl) ?_
  by_cases hc1 : x1 = (0 : Int32)
  · have h := if_t hc1 h
    refine lv_tableIn (off := 51) (tgt := 52) hx hb dX7_count_1 (by rw [hc1]; decide) (by rw [hc1]; decide) (by rw [hc1]; decide) (by decide) ?_
    refine lv_aload_n hx hb dX7_count_52 rfl (lv_at hl 0 rfl) ?_
    refine va_get (D := D) (ci := 7) (v := .ref (ad 2 0)) (C := RX7) (T := TX7) (N := 12) hx hb hts hinX7 hown hK.1 hP 0 rfl rfl 2 (by decide) lkf26 (fun _ h9 => h9) rfl dX7_count_53 ?_
    refine va_getN (D := D) (ci := 6) (v := .int ((X 2).1 6)) (C := RX6) (T := TX6) (N := 12) hx hb hts hinX6 hown hK.1 (P_left (wc := wX6 cA (ad 2) (X 2)) (R := (tX7 ad (X 6) ++ (wX5 cA (ad 0) (X 0) ++ (wX2 cA (ad 1) (X 1) ++ (wX6 cA (ad 3) (X 3) ++ (wX6 cA (ad 4) (X 4) ++ (wX6 cA (ad 5) (X 5) ++ (wX1 cA (ad 7) (X 7) ++ (wX0 cA (ad 8) (ad 2 0) (X 8) ++ (wX4 cA (ad 9) (X 9) ++ (wX3 cA (ad 10) (X 10) ++ (wX3 cA (ad 11) (X 11))))))))))))) (perm_of (fun c hc => by unfold wX7 wX7b; simp only [hc]; omega)) hP) 0 rfl rfl 6 (by decide) lkf259 (fun _ h9 => h9) rfl dX7_count_56 ?_
    cases h
    exact hend _ _ dX7_count_59
  have h := if_f hc1 h
  by_cases hc2 : x1 = (1 : Int32)
  · have h := if_t hc2 h
    refine lv_tableIn (off := 59) (tgt := 60) hx hb dX7_count_1 (by rw [hc2]; decide) (by rw [hc2]; decide) (by rw [hc2]; decide) (by decide) ?_
    refine lv_aload_n hx hb dX7_count_60 rfl (lv_at hl 0 rfl) ?_
    refine va_get (D := D) (ci := 7) (v := .ref (ad 2 0)) (C := RX7) (T := TX7) (N := 12) hx hb hts hinX7 hown hK.1 hP 0 rfl rfl 2 (by decide) lkf26 (fun _ h9 => h9) rfl dX7_count_61 ?_
    refine va_getN (D := D) (ci := 6) (v := .int ((X 2).1 9)) (C := RX6) (T := TX6) (N := 12) hx hb hts hinX6 hown hK.1 (P_left (wc := wX6 cA (ad 2) (X 2)) (R := (tX7 ad (X 6) ++ (wX5 cA (ad 0) (X 0) ++ (wX2 cA (ad 1) (X 1) ++ (wX6 cA (ad 3) (X 3) ++ (wX6 cA (ad 4) (X 4) ++ (wX6 cA (ad 5) (X 5) ++ (wX1 cA (ad 7) (X 7) ++ (wX0 cA (ad 8) (ad 2 0) (X 8) ++ (wX4 cA (ad 9) (X 9) ++ (wX3 cA (ad 10) (X 10) ++ (wX3 cA (ad 11) (X 11))))))))))))) (perm_of (fun c hc => by unfold wX7 wX7b; simp only [hc]; omega)) hP) 0 rfl rfl 9 (by decide) lkf99 (fun _ h9 => h9) rfl dX7_count_64 ?_
    cases h
    exact hend _ _ dX7_count_67
  have h := if_f hc2 h
  by_cases hc3 : x1 = (2 : Int32)
  · have h := if_t hc3 h
    refine lv_tableIn (off := 67) (tgt := 68) hx hb dX7_count_1 (by rw [hc3]; decide) (by rw [hc3]; decide) (by rw [hc3]; decide) (by decide) ?_
    refine lv_aload_n hx hb dX7_count_68 rfl (lv_at hl 0 rfl) ?_
    refine va_get (D := D) (ci := 7) (v := .ref (ad 2 0)) (C := RX7) (T := TX7) (N := 12) hx hb hts hinX7 hown hK.1 hP 0 rfl rfl 2 (by decide) lkf26 (fun _ h9 => h9) rfl dX7_count_69 ?_
    refine va_getN (D := D) (ci := 6) (v := .int ((X 2).1 10)) (C := RX6) (T := TX6) (N := 12) hx hb hts hinX6 hown hK.1 (P_left (wc := wX6 cA (ad 2) (X 2)) (R := (tX7 ad (X 6) ++ (wX5 cA (ad 0) (X 0) ++ (wX2 cA (ad 1) (X 1) ++ (wX6 cA (ad 3) (X 3) ++ (wX6 cA (ad 4) (X 4) ++ (wX6 cA (ad 5) (X 5) ++ (wX1 cA (ad 7) (X 7) ++ (wX0 cA (ad 8) (ad 2 0) (X 8) ++ (wX4 cA (ad 9) (X 9) ++ (wX3 cA (ad 10) (X 10) ++ (wX3 cA (ad 11) (X 11))))))))))))) (perm_of (fun c hc => by unfold wX7 wX7b; simp only [hc]; omega)) hP) 0 rfl rfl 10 (by decide) lkf127 (fun _ h9 => h9) rfl dX7_count_72 ?_
    obtain ⟨z4, hz4, h⟩ := bd_some h
    refine cR_S (As := [.int ((X 2).1 10)]) (rest := []) ⟨hx, hb, hml, hown, hts⟩ (c_J6_bitCount_0f7a4 l D cA  ((X 2).1 10) z4 hz4) (va_cwS 1 hts gX7_count_J6_bitCount_0f7a4 rfl rfl rfl hd_J6_bitCount_0f7a4.2 ⟨(Nat.le_of_ble_eq_true rfl), (Nat.le_of_ble_eq_true rfl)⟩) hK hP [] rfl rfl hl.1 rfl (Nat.le_of_ble_eq_true rfl) dX7_count_75 ⟨(Nat.le_of_ble_eq_true rfl), (Nat.le_of_ble_eq_true rfl)⟩ ?_
    cases h
    exact hend _ _ dX7_count_78
  have h := if_f hc3 h
  by_cases hc5 : x1 = (3 : Int32)
  · have h := if_t hc5 h
    refine lv_tableIn (off := 78) (tgt := 79) hx hb dX7_count_1 (by rw [hc5]; decide) (by rw [hc5]; decide) (by rw [hc5]; decide) (by decide) ?_
    refine lv_aload_n hx hb dX7_count_79 rfl (lv_at hl 0 rfl) ?_
    refine va_get (D := D) (ci := 7) (v := .ref (ad 2 0)) (C := RX7) (T := TX7) (N := 12) hx hb hts hinX7 hown hK.1 hP 0 rfl rfl 2 (by decide) lkf26 (fun _ h9 => h9) rfl dX7_count_80 ?_
    refine va_getN (D := D) (ci := 6) (v := .int ((X 2).1 11)) (C := RX6) (T := TX6) (N := 12) hx hb hts hinX6 hown hK.1 (P_left (wc := wX6 cA (ad 2) (X 2)) (R := (tX7 ad (X 6) ++ (wX5 cA (ad 0) (X 0) ++ (wX2 cA (ad 1) (X 1) ++ (wX6 cA (ad 3) (X 3) ++ (wX6 cA (ad 4) (X 4) ++ (wX6 cA (ad 5) (X 5) ++ (wX1 cA (ad 7) (X 7) ++ (wX0 cA (ad 8) (ad 2 0) (X 8) ++ (wX4 cA (ad 9) (X 9) ++ (wX3 cA (ad 10) (X 10) ++ (wX3 cA (ad 11) (X 11))))))))))))) (perm_of (fun c hc => by unfold wX7 wX7b; simp only [hc]; omega)) hP) 0 rfl rfl 11 (by decide) lkf177 (fun _ h9 => h9) rfl dX7_count_83 ?_
    cases h
    exact hend _ _ dX7_count_86
  have h := if_f hc5 h
  by_cases hc6 : x1 = (4 : Int32)
  · have h := if_t hc6 h
    refine lv_tableIn (off := 86) (tgt := 87) hx hb dX7_count_1 (by rw [hc6]; decide) (by rw [hc6]; decide) (by rw [hc6]; decide) (by decide) ?_
    refine lv_aload_n hx hb dX7_count_87 rfl (lv_at hl 0 rfl) ?_
    refine va_get (D := D) (ci := 7) (v := .ref (ad 9 0)) (C := RX7) (T := TX7) (N := 12) hx hb hts hinX7 hown hK.1 hP 0 rfl rfl 9 (by decide) lkf62 (fun _ h9 => h9) rfl dX7_count_88 ?_
    obtain ⟨z7, hz7, h⟩ := bd_some h
    refine pR_V (As := []) (rest := []) (wr := (tX7 ad (X 6) ++ (wX5 cA (ad 0) (X 0) ++ (wX2 cA (ad 1) (X 1) ++ (wX6 cA (ad 2) (X 2) ++ (wX6 cA (ad 3) (X 3) ++ (wX6 cA (ad 4) (X 4) ++ (wX6 cA (ad 5) (X 5) ++ (wX1 cA (ad 7) (X 7) ++ (wX0 cA (ad 8) (ad 2 0) (X 8) ++ (wX3 cA (ad 10) (X 10) ++ (wX3 cA (ad 11) (X 11))))))))))))) ⟨hx, hb, hml, hown, hts⟩ (c_X4_size l D cA (ad 9) (X 9)  z7 hz7) (cwV 0 hts gX7_count_X4_size rfl rfl rfl hd_X4_size ⟨(Nat.le_of_ble_eq_true rfl), (Nat.le_of_ble_eq_true rfl)⟩) (recvK hK (P_left (wc := wX4 cA (ad 9) (X 9)) (R := (tX7 ad (X 6) ++ (wX5 cA (ad 0) (X 0) ++ (wX2 cA (ad 1) (X 1) ++ (wX6 cA (ad 2) (X 2) ++ (wX6 cA (ad 3) (X 3) ++ (wX6 cA (ad 4) (X 4) ++ (wX6 cA (ad 5) (X 5) ++ (wX1 cA (ad 7) (X 7) ++ (wX0 cA (ad 8) (ad 2 0) (X 8) ++ (wX3 cA (ad 10) (X 10) ++ (wX3 cA (ad 11) (X 11))))))))))))) (perm_of (fun c hc => by unfold wX7 wX7b; simp only [hc]; omega)) hP) 0 4 rfl rfl) hK hP (perm_of (fun c hc => by unfold wX7 wX7b; simp only [hc]; omega)) rfl hl.1 rfl (Nat.le_of_ble_eq_true rfl) dX7_count_91 ⟨(Nat.le_of_ble_eq_true rfl), (Nat.le_of_ble_eq_true rfl)⟩ ?_
    cases h
    exact hend _ _ dX7_count_94
  have h := if_f hc6 h
  by_cases hc8 : x1 = (5 : Int32)
  · have h := if_t hc8 h
    refine lv_tableIn (off := 94) (tgt := 95) hx hb dX7_count_1 (by rw [hc8]; decide) (by rw [hc8]; decide) (by rw [hc8]; decide) (by decide) ?_
    refine lv_aload_n hx hb dX7_count_95 rfl (lv_at hl 0 rfl) ?_
    refine va_get (D := D) (ci := 7) (v := .ref (ad 7 0)) (C := RX7) (T := TX7) (N := 12) hx hb hts hinX7 hown hK.1 hP 0 rfl rfl 7 (by decide) lkf46 (fun _ h9 => h9) rfl dX7_count_96 ?_
    obtain ⟨z9, hz9, h⟩ := bd_some h
    refine pR_V (As := []) (rest := []) (wr := (tX7 ad (X 6) ++ (wX5 cA (ad 0) (X 0) ++ (wX2 cA (ad 1) (X 1) ++ (wX6 cA (ad 2) (X 2) ++ (wX6 cA (ad 3) (X 3) ++ (wX6 cA (ad 4) (X 4) ++ (wX6 cA (ad 5) (X 5) ++ (wX0 cA (ad 8) (ad 2 0) (X 8) ++ (wX4 cA (ad 9) (X 9) ++ (wX3 cA (ad 10) (X 10) ++ (wX3 cA (ad 11) (X 11))))))))))))) ⟨hx, hb, hml, hown, hts⟩ (c_X1_size l D cA (ad 7) (X 7)  z9 hz9) (cwV 0 hts gX7_count_X1_size rfl rfl rfl hd_X1_size ⟨(Nat.le_of_ble_eq_true rfl), (Nat.le_of_ble_eq_true rfl)⟩) (recvK hK (P_left (wc := wX1 cA (ad 7) (X 7)) (R := (tX7 ad (X 6) ++ (wX5 cA (ad 0) (X 0) ++ (wX2 cA (ad 1) (X 1) ++ (wX6 cA (ad 2) (X 2) ++ (wX6 cA (ad 3) (X 3) ++ (wX6 cA (ad 4) (X 4) ++ (wX6 cA (ad 5) (X 5) ++ (wX0 cA (ad 8) (ad 2 0) (X 8) ++ (wX4 cA (ad 9) (X 9) ++ (wX3 cA (ad 10) (X 10) ++ (wX3 cA (ad 11) (X 11))))))))))))) (perm_of (fun c hc => by unfold wX7 wX7b; simp only [hc]; omega)) hP) 0 1 rfl rfl) hK hP (perm_of (fun c hc => by unfold wX7 wX7b; simp only [hc]; omega)) rfl hl.1 rfl (Nat.le_of_ble_eq_true rfl) dX7_count_99 ⟨(Nat.le_of_ble_eq_true rfl), (Nat.le_of_ble_eq_true rfl)⟩ ?_
    cases h
    exact hend _ _ dX7_count_102
  have h := if_f hc8 h
  by_cases hc10 : x1 = (6 : Int32)
  · have h := if_t hc10 h
    refine lv_tableIn (off := 102) (tgt := 103) hx hb dX7_count_1 (by rw [hc10]; decide) (by rw [hc10]; decide) (by rw [hc10]; decide) (by decide) ?_
    refine lv_aload_n hx hb dX7_count_103 rfl (lv_at hl 0 rfl) ?_
    refine va_get (D := D) (ci := 7) (v := .int ((X 6).1 6)) (C := RX7) (T := TX7) (N := 12) hx hb hts hinX7 hown hK.1 hP 0 rfl rfl 6 (by decide) lkf39 (fun _ h9 => h9) rfl dX7_count_104 ?_
    cases h
    exact hend _ _ dX7_count_107
  have h := if_f hc10 h
  by_cases hc11 : x1 = (7 : Int32)
  · have h := if_t hc11 h
    refine lv_tableIn (off := 107) (tgt := 108) hx hb dX7_count_1 (by rw [hc11]; decide) (by rw [hc11]; decide) (by rw [hc11]; decide) (by decide) ?_
    refine lv_aload_n hx hb dX7_count_108 rfl (lv_at hl 0 rfl) ?_
    refine va_get (D := D) (ci := 7) (v := .ref (ad 0 0)) (C := RX7) (T := TX7) (N := 12) hx hb hts hinX7 hown hK.1 hP 0 rfl rfl 0 (by decide) lkf10 (fun _ h9 => h9) rfl dX7_count_109 ?_
    obtain ⟨z12, hz12, h⟩ := bd_some h
    refine pR_V (As := []) (rest := []) (wr := (tX7 ad (X 6) ++ (wX2 cA (ad 1) (X 1) ++ (wX6 cA (ad 2) (X 2) ++ (wX6 cA (ad 3) (X 3) ++ (wX6 cA (ad 4) (X 4) ++ (wX6 cA (ad 5) (X 5) ++ (wX1 cA (ad 7) (X 7) ++ (wX0 cA (ad 8) (ad 2 0) (X 8) ++ (wX4 cA (ad 9) (X 9) ++ (wX3 cA (ad 10) (X 10) ++ (wX3 cA (ad 11) (X 11))))))))))))) ⟨hx, hb, hml, hown, hts⟩ (c_X5_size l D cA (ad 0) (X 0)  z12 hz12) (cwV 0 hts gX7_count_X5_size rfl rfl rfl hd_X5_size ⟨(Nat.le_of_ble_eq_true rfl), (Nat.le_of_ble_eq_true rfl)⟩) (recvK hK (P_left (wc := wX5 cA (ad 0) (X 0)) (R := (tX7 ad (X 6) ++ (wX2 cA (ad 1) (X 1) ++ (wX6 cA (ad 2) (X 2) ++ (wX6 cA (ad 3) (X 3) ++ (wX6 cA (ad 4) (X 4) ++ (wX6 cA (ad 5) (X 5) ++ (wX1 cA (ad 7) (X 7) ++ (wX0 cA (ad 8) (ad 2 0) (X 8) ++ (wX4 cA (ad 9) (X 9) ++ (wX3 cA (ad 10) (X 10) ++ (wX3 cA (ad 11) (X 11))))))))))))) (perm_of (fun c hc => by unfold wX7 wX7b; simp only [hc]; omega)) hP) 0 5 rfl rfl) hK hP (perm_of (fun c hc => by unfold wX7 wX7b; simp only [hc]; omega)) rfl hl.1 rfl (Nat.le_of_ble_eq_true rfl) dX7_count_112 ⟨(Nat.le_of_ble_eq_true rfl), (Nat.le_of_ble_eq_true rfl)⟩ ?_
    cases h
    exact hend _ _ dX7_count_115
  have h := if_f hc11 h
  by_cases hc13 : x1 = (8 : Int32)
  · have h := if_t hc13 h
    refine lv_tableIn (off := 115) (tgt := 116) hx hb dX7_count_1 (by rw [hc13]; decide) (by rw [hc13]; decide) (by rw [hc13]; decide) (by decide) ?_
    refine lv_aload_n hx hb dX7_count_116 rfl (lv_at hl 0 rfl) ?_
    refine va_get (D := D) (ci := 7) (v := .ref (ad 2 0)) (C := RX7) (T := TX7) (N := 12) hx hb hts hinX7 hown hK.1 hP 0 rfl rfl 2 (by decide) lkf26 (fun _ h9 => h9) rfl dX7_count_117 ?_
    refine va_getN (D := D) (ci := 6) (v := .int ((X 2).1 8)) (C := RX6) (T := TX6) (N := 12) hx hb hts hinX6 hown hK.1 (P_left (wc := wX6 cA (ad 2) (X 2)) (R := (tX7 ad (X 6) ++ (wX5 cA (ad 0) (X 0) ++ (wX2 cA (ad 1) (X 1) ++ (wX6 cA (ad 3) (X 3) ++ (wX6 cA (ad 4) (X 4) ++ (wX6 cA (ad 5) (X 5) ++ (wX1 cA (ad 7) (X 7) ++ (wX0 cA (ad 8) (ad 2 0) (X 8) ++ (wX4 cA (ad 9) (X 9) ++ (wX3 cA (ad 10) (X 10) ++ (wX3 cA (ad 11) (X 11))))))))))))) (perm_of (fun c hc => by unfold wX7 wX7b; simp only [hc]; omega)) hP) 0 rfl rfl 8 (by decide) lkf262 (fun _ h9 => h9) rfl dX7_count_120 ?_
    cases h
    exact hend _ _ dX7_count_123
  have h := if_f hc13 h
  refine lv_tableOut (tgt := 124) hx hb dX7_count_1 (sw_out8 hc1 hc2 hc3 hc5 hc6 hc8 hc10 hc11 hc13) (by decide) ?_
  refine lv_iconst (v := (-1 : Int32)) hx hb dX7_count_124 (by decide) ?_
  cases h
  exact hend _ _ dX7_count_125
