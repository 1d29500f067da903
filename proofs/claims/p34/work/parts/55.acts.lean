/-! ===== an act (own text) ===== -/
def Iv (n : Nat) (X : Nat → Ob) : Prop := n < 1000 ∧ RX X ∧ G n X
def AO (n : Nat) (A : Option (Int64 × (Nat → Ob))) : Prop := ∃ r X', A = some (r, X') ∧ Iv n X'
theorem AO.ite {n : Nat} {c : Prop} [Decidable c] {A B : Option (Int64 × (Nat → Ob))} (h1 : AO n A) (h2 : AO n B) : AO n (if c then A else B) := by
  by_cases q : c
  · rw [if_pos q]; exact h1
  · rw [if_neg q]; exact h2
theorem AO.rd {n : Nat} {F : Option Int32} {K : Int32 → Option (Int64 × (Nat → Ob))} (h : ∃ r, F = some r) (k : ∀ r, AO n (K r)) : AO n (bd F K) := by
  obtain ⟨r, e⟩ := h
  rw [e, bd_s]
  exact k r
theorem AO.wr {n : Nat} {F : Option (Int32 × (Nat → Ob))} {K : Int32 × (Nat → Ob) → Option (Int64 × (Nat → Ob))} (h : ∃ r X', F = some (r, X') ∧ Iv n X') (k : ∀ r X', Iv n X' → AO n (K (r, X'))) : AO n (bd F K) := by
  obtain ⟨r, X', e, i⟩ := h
  rw [e, bd_s]
  exact k r X' i
theorem AO.gd {n : Nat} {c : Prop} [Decidable c] {A : Option (Int64 × (Nat → Ob))} (h : c) (k : AO n A) : AO n (gd (decide c) A) := by
  rw [gd_d h]
  exact k
theorem AO.fin {n : Nat} {r : Int64} {X : Nat → Ob} (h : Iv n X) : AO n (some (r, X)) := ⟨r, X, rfl, h⟩
theorem som (x : Int32) (N : Nat) (h0 : 0 < N) (hN : N < 2147483648) : ∃ r, f_L_some x (nI N) = some r := by
  obtain ⟨k, -, e⟩ := some_ok x h0 hN
  exact ⟨_, e⟩
theorem iv_undo {n : Nat} {X : Nat → Ob} (h : Iv n X) (x : Int32) : ∃ r X', f_X7_undo X x = some (r, X') ∧ Iv n X' := by
  obtain ⟨hn, ⟨o, ho⟩, g⟩ := h
  obtain ⟨r, X', o', a, -, b⟩ := s_undo X o ho x
  exact ⟨r, X', a, hn, ⟨o', b⟩, undo_g (RX.sz ⟨o, ho⟩) g a⟩
theorem iv_tie {n : Nat} {X : Nat → Ob} (h : Iv n X) (x1 x2 x3 x4 x5 : Int32) : ∃ r X', f_X7_tie X x1 x2 x3 x4 x5 = some (r, X') ∧ Iv n X' := by
  obtain ⟨hn, ⟨o, ho⟩, g⟩ := h
  obtain ⟨r, X', o', a, -, b⟩ := s_tie X o ho x1 x2 x3 x4 x5
  exact ⟨r, X', a, hn, ⟨o', b⟩, tie_g (RX.sz ⟨o, ho⟩) hn g a⟩
theorem iv_pull {n : Nat} {X : Nat → Ob} (h : Iv n X) (x : Int32) : ∃ r X', f_X7_pull X x = some (r, X') ∧ Iv n X' := by
  obtain ⟨hn, ⟨o, ho⟩, g⟩ := h
  obtain ⟨r, X', o', a, -, b⟩ := s_pull X o ho x
  exact ⟨r, X', a, hn, ⟨o', b⟩, pull_g (RX.sz ⟨o, ho⟩) g a⟩
theorem iv_cut {n : Nat} {X : Nat → Ob} (h : Iv n X) (x : Int32) : ∃ r X', f_X7_cut X x = some (r, X') ∧ Iv n X' := by
  obtain ⟨hn, ⟨o, ho⟩, g⟩ := h
  obtain ⟨r, X', o', a, -, b⟩ := s_cut X o ho x
  exact ⟨r, X', a, hn, ⟨o', b⟩, cut_g (RX.sz ⟨o, ho⟩) g a⟩
theorem iv_days {n : Nat} {X : Nat → Ob} (h : Iv n X) (x : Int32) : ∃ r X', f_X7_days X x = some (r, X') ∧ Iv n X' := by
  obtain ⟨hn, ⟨o, ho⟩, g⟩ := h
  obtain ⟨r, X', o', a, -, b⟩ := s_days X o ho x
  exact ⟨r, X', a, hn, ⟨o', b⟩, days_g (RX.sz ⟨o, ho⟩) g a⟩
theorem iv_takeBack {n : Nat} {X : Nat → Ob} (h : Iv n X) : ∃ r X', f_X7_takeBack X = some (r, X') ∧ Iv n X' := by
  obtain ⟨hn, ⟨o, ho⟩, g⟩ := h
  obtain ⟨r, X', o', a, -, b⟩ := s_takeBack X o ho
  exact ⟨r, X', a, hn, ⟨o', b⟩, takeBack_g (RX.sz ⟨o, ho⟩) g a⟩
theorem iv_keep {n : Nat} {X : Nat → Ob} (h : Iv n X) : ∃ r X', f_X7_keep X = some (r, X') ∧ Iv n X' := by
  obtain ⟨hn, ⟨o, ho⟩, g⟩ := h
  obtain ⟨r, X', o', a, -, b⟩ := s_keep X o ho
  exact ⟨r, X', a, hn, ⟨o', b⟩, keep_g (RX.sz ⟨o, ho⟩) g a⟩
theorem iv_back {n : Nat} {X : Nat → Ob} (h : Iv n X) : ∃ r X', f_X7_back X = some (r, X') ∧ Iv n X' := by
  obtain ⟨hn, ⟨o, ho⟩, g⟩ := h
  obtain ⟨r, X', o', a, -, b⟩ := s_back X o ho
  exact ⟨r, X', a, hn, ⟨o', b⟩, back_g (RX.sz ⟨o, ho⟩) g a⟩
theorem iv_orders {n : Nat} {X : Nat → Ob} (h : Iv n X) : ∃ r X', f_X7_orders X = some (r, X') ∧ Iv n X' := by
  obtain ⟨hn, ⟨o, ho⟩, g⟩ := h
  obtain ⟨r, X', o', a, -, b⟩ := s_orders X o ho
  exact ⟨r, X', a, hn, ⟨o', b⟩, orders_g g a⟩
theorem iv_tell {n : Nat} {X : Nat → Ob} (h : Iv n X) (x : Int32) : ∃ r X', f_X7_tell X x = some (r, X') ∧ Iv n X' := by
  obtain ⟨hn, ⟨o, ho⟩, g⟩ := h
  obtain ⟨r, X', o', a, -, b⟩ := s_tell X o ho x
  exact ⟨r, X', a, hn, ⟨o', b⟩, tell_g g a⟩
theorem iv_noRow {n : Nat} {X : Nat → Ob} (h : Iv n X) : ∃ r X', f_X7_noRow X = some (r, X') ∧ Iv n X' := by
  obtain ⟨hn, ⟨o, ho⟩, g⟩ := h
  obtain ⟨r, X', o', a, -, b⟩ := s_noRow X o ho
  exact ⟨r, X', a, hn, ⟨o', b⟩, noRow_g g a⟩
theorem iv_smooth {n : Nat} {X : Nat → Ob} (h : Iv n X) (x : Int32) : ∃ r X', f_X7_smooth X x = some (r, X') ∧ Iv n X' := by
  obtain ⟨hn, ⟨o, ho⟩, g⟩ := h
  obtain ⟨r, X', o', a, -, b⟩ := s_smooth X o ho x
  exact ⟨r, X', a, hn, ⟨o', b⟩, smooth_g g a⟩
theorem iv_cross {n : Nat} {X : Nat → Ob} (h : Iv n X) (x y : Int32) : ∃ r X', f_X7_cross X x y = some (r, X') ∧ Iv n X' := by
  obtain ⟨hn, ⟨o, ho⟩, g⟩ := h
  obtain ⟨r, X', o', a, -, b⟩ := s_cross X o ho x y
  exact ⟨r, X', a, hn, ⟨o', b⟩, cross_g g a⟩
theorem rd_loosen {X : Nat → Ob} (h : RX X) (x : Int32) : ∃ r, f_X7_loosen X x = some r := by
  obtain ⟨o, ho⟩ := h
  obtain ⟨r, o', a, -⟩ := s_loosen X o ho x
  exact ⟨r, a⟩
theorem rd_pay {X : Nat → Ob} (h : RX X) (x : Int32) : ∃ r, f_X7_pay X x = some r := by
  obtain ⟨o, ho⟩ := h
  obtain ⟨r, o', a, -⟩ := s_pay X o ho x
  exact ⟨r, a⟩
theorem rd_forEver {X : Nat → Ob} (h : RX X) : ∃ r, f_X7_forEver X = some r := by
  obtain ⟨o, ho⟩ := h
  obtain ⟨r, o', a, -⟩ := s_forEver X o ho
  exact ⟨r, a⟩
theorem rd_frees {X : Nat → Ob} (h : RX X) (x : Int32) : ∃ r, f_X7_frees X x = some r := by
  obtain ⟨o, ho⟩ := h
  obtain ⟨r, o', a, -⟩ := s_frees X o ho x
  exact ⟨r, a⟩
theorem rd_fresh {X : Nat → Ob} (h : RX X) (x y z : Int32) : ∃ r, f_X7_fresh X x y z = some r := by
  obtain ⟨o, ho⟩ := h
  obtain ⟨r, a, -⟩ := s_fresh X o ho x y z
  exact ⟨r, a⟩
theorem rd_judge {X : Nat → Ob} (h : RX X) : ∃ r, f_X7_judge X = some r := by
  obtain ⟨o, ho⟩ := h
  obtain ⟨r, a, -⟩ := s_judge X o ho
  exact ⟨r, a⟩
theorem rd_alike {X : Nat → Ob} (h : RX X) : ∃ r, f_X7_alike X = some r := by
  obtain ⟨o, ho⟩ := h
  obtain ⟨r, o', a, -⟩ := s_alike X o ho
  exact ⟨r, a⟩
theorem rd_mark {X : Nat → Ob} (h : RX X) (x y : Int32) : ∃ r, f_X7_mark X x y = some r := by
  obtain ⟨o, ho⟩ := h
  obtain ⟨r, a, -⟩ := s_mark X o ho x y
  exact ⟨r, a⟩
theorem rd_loose {X : Nat → Ob} (h : RX X) (x y : Int32) : ∃ r, f_X7_loose X x y = some r := by
  obtain ⟨o, ho⟩ := h
  obtain ⟨r, o', a, -⟩ := s_loose X o ho x y
  exact ⟨r, a⟩
theorem rd_year {X : Nat → Ob} (h : RX X) (x y z : Int32) : ∃ r, f_X7_year X x y z = some r := by
  obtain ⟨o, ho⟩ := h
  obtain ⟨r, a, -⟩ := s_year X o ho x y z
  exact ⟨r, a⟩
theorem rd_knot {X : Nat → Ob} (h : RX X) (x y : Int32) : ∃ r, f_X7_knot X x y = some r := by
  obtain ⟨o, ho⟩ := h
  obtain ⟨r, a, -⟩ := s_knot X o ho x y
  exact ⟨r, a⟩
theorem rd_may {X : Nat → Ob} (h : RX X) (x : Int32) : ∃ r, f_X7_may X x = some r := by
  obtain ⟨o, ho⟩ := h
  obtain ⟨r, a, -⟩ := s_may X o ho x
  exact ⟨r, a⟩
set_option maxHeartbeats 4000000 in
theorem act_ok {n : Nat} {X : Nat → Ob} (h : Iv n X) {B : Nat → Int32} {b0 b3 : Nat} (hb0 : B 0 = nI b0) (hb3 : B 3 = nI b3) (h2 : 2 ≤ b0) (h5 : b0 ≤ 5) (h1 : 1 ≤ b3) (h6 : b3 ≤ 6) (x y : Int32) : AO n (f_L_act X B x y) := by
  have hR := h.2.1
  have ne : ¬ nI b0 = (0 : Int32) := fun q => by rw [l_0, nI_eq (by omega) (by omega)] at q; omega
  have hp : 2 ^ b3 ≤ 2 ^ 6 := Nat.pow_le_pow_right (n := 2) (by omega) h6
  have cross : ∀ z, AO n (bd (f_X7_cross X (y &&& (1 : Int32)) z) (fun z42 => bd (f_X7_alike z42.2) (fun z43 => bd (f_L_some (x >>> ((11 : Int32) &&& 31)) (4 : Int32)) (fun z44 => bd (f_X7_mark z42.2 (y &&& (1 : Int32)) z44) (fun z45 => bd (f_L_some (y >>> ((1 : Int32) &&& 31)) (5 : Int32)) (fun z46 => bd (f_X7_loose z42.2 (y &&& (1 : Int32)) (z46 - (1 : Int32))) (fun z47 => some ((((z42.1.toInt64 * (100000 : Int64)) + (z43.toInt64 * (10000 : Int64))) + (z45.toInt64 * (10 : Int64))) + z47.toInt64, z42.2)))))))) := fun z =>
    AO.wr (iv_cross h _ _) (fun r X' i => AO.rd (rd_alike i.2.1) (fun _ => AO.rd (som _ 4 (by omega) (by omega)) (fun _ => AO.rd (rd_mark i.2.1 _ _) (fun _ => AO.rd (som _ 5 (by omega) (by omega)) (fun _ => AO.rd (rd_loose i.2.1 _ _) (fun _ => AO.fin i))))))
  unfold f_L_act
  rw [hb0, hb3, show (1 : Int32) <<< (nI b3 &&& 31) = nI (2 ^ b3) from sh1_nI (by omega)]
  refine AO.rd (som _ b3 (by omega) (by omega)) (fun z1 => AO.rd (som _ b0 (by omega) (by omega)) (fun z2 => ?_))
  refine AO.ite (AO.wr (iv_undo h _) (fun r X' i => AO.fin i)) ?_
  refine AO.ite (AO.wr (iv_undo h _) (fun r X' i => AO.fin i)) ?_
  refine AO.ite (AO.gd ne (AO.rd (som _ 100 (by omega) (by omega)) (fun _ => AO.wr (iv_tie h _ _ _ _ _) (fun r X' i => AO.fin i)))) ?_
  refine AO.ite (AO.gd ne (AO.rd (som _ 100 (by omega) (by omega)) (fun _ => AO.wr (iv_tie h _ _ _ _ _) (fun r X' i => AO.fin i)))) ?_
  refine AO.ite (AO.ite (AO.wr (iv_pull h _) (fun r X' i => AO.fin i)) (AO.wr (iv_cut h _) (fun r X' i => AO.fin i))) ?_
  refine AO.ite (AO.rd (som _ 20 (by omega) (by omega)) (fun _ => AO.wr (iv_days h _) (fun r X' i => AO.fin i))) ?_
  refine AO.ite (AO.wr (iv_takeBack h) (fun r X' i => AO.fin i)) ?_
  refine AO.ite (AO.rd (rd_loosen hR _) (fun _ => AO.rd (som _ 5 (by omega) (by omega)) (fun _ => AO.rd (rd_pay hR _) (fun _ => AO.fin h)))) ?_
  refine AO.ite (AO.rd (rd_forEver hR) (fun _ => AO.rd (rd_frees hR _) (fun _ => AO.fin h))) ?_
  refine AO.ite (AO.rd (som _ 3 (by omega) (by omega)) (fun _ => AO.rd (som _ (2 ^ b3) (Nat.two_pow_pos b3) (by omega)) (fun _ => AO.rd (rd_fresh hR _ _ _) (fun _ => AO.fin h)))) ?_
  refine AO.ite (AO.wr (iv_orders h) (fun r X' i => AO.fin i)) ?_
  refine AO.ite (AO.ite (AO.wr (iv_noRow h) (fun r X' i => AO.fin i)) (AO.wr (iv_tell h _) (fun r X' i => AO.rd (rd_judge i.2.1) (fun _ => AO.fin i)))) ?_
  refine AO.ite (AO.ite (AO.wr (iv_smooth h _) (fun r X' i => AO.fin i)) (AO.rd (som _ 8 (by omega) (by omega)) (fun z => cross z))) ?_
  refine AO.ite (AO.ite (AO.wr (iv_smooth h _) (fun r X' i => AO.fin i)) (AO.rd (som _ 8 (by omega) (by omega)) (fun z => cross z))) ?_
  refine AO.ite (AO.rd (som _ 10000 (by omega) (by omega)) (fun _ => AO.rd (som _ 60 (by omega) (by omega)) (fun _ => AO.rd (rd_year hR _ _ _) (fun _ => AO.fin h)))) ?_
  exact AO.ite (AO.wr (iv_back h) (fun r X' i => AO.fin i)) (AO.wr (iv_keep h) (fun r X' i => AO.fin i))
