/-! ===== text, ropes, row, looks (own text) ===== -/
theorem MB.eqs {o o' : Ob} {s b : Nat} {v : TV} (h : ∀ j, 2 ≤ j → j ≤ 12 → o'.2 j = o.2 j) (hm : MB o s b v) : MB o' s b v := by
  unfold MB at hm ⊢
  rw [h 2 (by omega) (by omega), h 3 (by omega) (by omega), h 4 (by omega) (by omega), h 5 (by omega) (by omega), h 11 (by omega) (by omega), h 12 (by omega) (by omega), h 6 (by omega) (by omega), h 7 (by omega) (by omega), h 8 (by omega) (by omega), h 9 (by omega) (by omega), h 10 (by omega) (by omega)]
  exact hm
theorem RT.eqs {T o o' : Ob} {v : TV} (h : ∀ j, 2 ≤ j → j ≤ 12 → o'.2 j = o.2 j) (hm : RT T o v) : RT T o' v := ⟨hm.1, hm.2.1.eqs h, hm.2.2⟩
theorem RK.eqs {A B C o o' : Ob} {v : TV} {kn : Nat} {U : Nat → TV} (h : ∀ j, 2 ≤ j → j ≤ 12 → o'.2 j = o.2 j) (h13 : o'.1 13 = o.1 13) (hk : RK A B C o v kn U) : RK A B C o' v kn U := by
  obtain ⟨a1, a2, a3, a4, a5, a6⟩ := hk
  exact ⟨a1, a2, h13.trans a3, fun i hi => ⟨(a4 i hi).1, (a4 i hi).2.1, (a4 i hi).2.2.1, (a4 i hi).2.2.2.eqs h⟩, a5, a6⟩
theorem Rl.tx {X X' : Nat → Ob} {o o' : Ob} (h : Rl X o) (hX : ∀ j, j ≠ 0 → X' j = X j) (h1 : ∀ i, i ≠ 0 → o'.1 i = o.1 i) (h2 : ∀ i, i ≠ 1 → o'.2 i = o.2 i) (hn : ∃ n B, TX (X' 0) o' n B) : Rl X' o' := by
  obtain ⟨v, t, -, r0, r1, rw', rp, ⟨kn, U, rk⟩⟩ := h
  have he : ∀ j, 2 ≤ j → j ≤ 12 → o'.2 j = o.2 j := fun j a b => h2 j (by omega)
  refine ⟨v, ?_, hn, ?_, ?_, ?_, ?_, ⟨kn, U, ?_⟩⟩
  · rw [hX 2 (by omega)]; exact t.eqs he
  · rw [hX 10 (by omega), h2 18 (by omega), h2 19 (by omega)]; exact r0
  · rw [hX 11 (by omega), h2 18 (by omega), h2 19 (by omega)]; exact r1
  · rw [hX 9 (by omega), h1 16 (by omega), h2 17 (by omega)]; exact rw'
  · rw [hX 7 (by omega), h1 14 (by omega), h2 15 (by omega)]; exact rp
  · rw [hX 4 (by omega), hX 5 (by omega), hX 6 (by omega)]; exact rk.eqs he (h1 13 (by omega))
theorem s_write : Sim_write Rl := fun X o h x y => by
  obtain ⟨v, ht, ⟨n, B, h0⟩, -⟩ := id h
  obtain ⟨r, X', o', n', B', a, b, c, d, e, f⟩ := write_both h0 x y
  exact ⟨r, X', o', a, b, h.tx d e f ⟨n', B', c⟩⟩
theorem s_wipe : Sim_wipe Rl := fun X o h => by
  obtain ⟨v, ht, ⟨n, B, h0⟩, -⟩ := id h
  refine ⟨nI n, sX X 0 (sF (X 0) 1 (nI 0)), sF o 0 (nI 0), ?_, ?_, h.tx (fun j hj => ?_) (fun i hi => ?_) (fun _ _ => rfl) ⟨0, fun _ => 0, by omega, rfl, rfl, fun i hi => by omega⟩⟩
  · show some ((X 0).1 1, _) = _
    rw [h0.2.1]; rfl
  · show some (o.1 0, _) = _
    rw [h0.2.2.1]; rfl
  · show (if j = 0 then _ else X j) = _
    rw [if_neg hj]
  · rw [sF1, if_neg hi]
/-! ropes -/
theorem Rl.rope {X X' : Nat → Ob} {o o' : Ob} (h : Rl X o) (hX : ∀ j, j ≠ 10 → j ≠ 11 → X' j = X j) (h1 : o'.1 = o.1) (h2 : ∀ i, i ≠ 18 → i ≠ 19 → o'.2 i = o.2 i) (r0 : ∃ m W, RR 0 (X' 10) (o'.2 18) (o'.2 19) m W) (r1 : ∃ m W, RR 1 (X' 11) (o'.2 18) (o'.2 19) m W) : Rl X' o' := by
  obtain ⟨v, t, ⟨n, B, tx⟩, -, -, rw', rp, ⟨kn, U, rk⟩⟩ := h
  have he : ∀ j, 2 ≤ j → j ≤ 12 → o'.2 j = o.2 j := fun j a b => h2 j (by omega) (by omega)
  refine ⟨v, ?_, ⟨n, B, ?_⟩, r0, r1, ?_, ?_, ⟨kn, U, ?_⟩⟩
  · rw [hX 2 (by omega) (by omega)]; exact t.eqs he
  · rw [hX 0 (by omega) (by omega)]
    obtain ⟨a, b, c, d⟩ := tx
    exact ⟨a, b, by rw [h1]; exact c, fun i hi => ⟨(d i hi).1, (d i hi).2.1, by rw [h2 1 (by omega) (by omega)]; exact (d i hi).2.2⟩⟩
  · rw [hX 9 (by omega) (by omega), h1, h2 17 (by omega) (by omega)]; exact rw'
  · rw [hX 7 (by omega) (by omega), h1, h2 15 (by omega) (by omega)]; exact rp
  · rw [hX 4 (by omega) (by omega), hX 5 (by omega) (by omega), hX 6 (by omega) (by omega)]; exact rk.eqs he (by rw [h1])
theorem cross_rr {r : Nat} (hr : r < 2) {T T' o : Ob} {n c : Nat} {W : Nat → Nat} (h : RR r T (o.2 18) (o.2 19) n W) (hc : c < 8) (hn : n < 16) (h2 : T'.1 2 = nI (n + 1)) (h1 : T'.1 1 = nI (red (fun i => if i = n then c else W i) (n + 1)).1) (h3 : ∀ i, i < (red (fun i => if i = n then c else W i) (n + 1)).1 → T'.2 0 i = nI ((red (fun i => if i = n then c else W i) (n + 1)).2 i)) : RR r T' ((sA (sA o 19 (16 * r + n) (nI c)) 18 r (nI (n + 1))).2 18) ((sA (sA o 19 (16 * r + n) (nI c)) 18 r (nI (n + 1))).2 19) (n + 1) (fun i => if i = n then c else W i) := by
  obtain ⟨a0, a1, -, -, -, a5, a6⟩ := h
  refine ⟨by omega, fun i hi => ?_, h2, h1, h3, ?_, fun i hi => ?_⟩
  · show (if i = n then c else W i) < 8
    split
    · exact hc
    · exact a1 i (by omega)
  · rw [sA2, if_pos ⟨rfl, rfl⟩]
  · rw [sA2, if_neg (by omega), sA2]
    show _ = nI (if i = n then c else W i)
    by_cases q : i = n
    · rw [if_pos (by omega), if_pos q]
    · rw [if_neg (by omega), if_neg q]; exact a6 i (by omega)
theorem other_rr {r r' : Nat} (hr : r < 2) (hr' : r' < 2) (hne : r' ≠ r) {T o : Ob} {n : Nat} {W : Nat → Nat} {p k : Nat} {x y : Int32} (h : RR r' T (o.2 18) (o.2 19) n W) (hp : p < 16) : RR r' T ((sA (sA o 19 (16 * r + p) x) 18 r y).2 18) ((sA (sA o 19 (16 * r + p) x) 18 r y).2 19) n W := by
  obtain ⟨a0, a1, a2, a3, a4, a5, a6⟩ := h
  refine ⟨a0, a1, a2, a3, a4, ?_, fun i hi => ?_⟩
  · rw [sA2, if_neg (by omega), sA2, if_neg (by omega)]; exact a5
  · rw [sA2, if_neg (by omega), sA2, if_neg (by omega)]; exact a6 i hi
theorem cross_m {r : Nat} (hr : r < 2) {T o : Ob} {n c : Nat} {W : Nat → Nat} (h : RR r T (o.2 18) (o.2 19) n W) : gd (ck (nI r) 2) (if o.2 18 (nI r).toNatClampNeg = (16 : Int32) then some ((-3 : Int32), o) else gd (ck (((16 : Int32) * (nI r)) + (o.2 18 (nI r).toNatClampNeg)) 32) (nm (sA o 19 (((16 : Int32) * (nI r)) + (o.2 18 (nI r).toNatClampNeg)).toNatClampNeg (nI c)) (fun s5 => nm (sA s5 18 (nI r).toNatClampNeg ((s5.2 18 (nI r).toNatClampNeg) + (1 : Int32))) (fun s6 => some (s6.2 18 (nI r).toNatClampNeg, s6))))) = if n = 16 then some ((-3 : Int32), o) else some (nI (n + 1), sA (sA o 19 (16 * r + n) (nI c)) 18 r (nI (n + 1))) := by
  have h0 := h.1
  have h5 := h.2.2.2.2.2.1
  rw [cl_nI (by omega), ck_nI (by omega), gd_d hr, h5]
  by_cases q : n = 16
  · subst q
    rw [if_pos (show nI 16 = (16 : Int32) from rfl), if_pos rfl]
  · rw [if_neg (by rw [l_16, nI_eq (by omega) (by omega)]; exact q), if_neg q, l_16, pk_mul, nI_add, ck_nI (by omega), gd_d (by omega), cl_nI (by omega), nm_s, nm_s]
    rw [show (sA o 19 (16 * r + n) (nI c)).2 18 r = nI n from h5, l_1, nI_add]
    rw [show (sA (sA o 19 (16 * r + n) (nI c)) 18 r (nI (n + 1))).2 18 r = nI (n + 1) from by rw [sA2, if_pos ⟨rfl, rfl⟩]]
theorem cross_c {T : Ob} {r : Nat} {a b : Nat → Int32} {n c : Nat} {W : Nat → Nat} (h : RR r T a b n W) (hc : c < 8) {X : Nat → Ob} {k : Nat} : (n = 16 → bd (f_X3_size T) (fun z4 => if z4 < (16 : Int32) then bd (f_X3_append T (nI c)) (fun z5 => nm (sX X k z5) (fun s6 => bd (f_X3_size (s6 k)) (fun z7 => some (z7, s6)))) else some ((-3 : Int32), X)) = some ((-3 : Int32), X)) ∧ (¬ n = 16 → ∃ T', bd (f_X3_size T) (fun z4 => if z4 < (16 : Int32) then bd (f_X3_append T (nI c)) (fun z5 => nm (sX X k z5) (fun s6 => bd (f_X3_size (s6 k)) (fun z7 => some (z7, s6)))) else some ((-3 : Int32), X)) = some (nI (n + 1), sX X k T') ∧ T'.1 2 = nI (n + 1) ∧ T'.1 1 = nI (red (fun i => if i = n then c else W i) (n + 1)).1 ∧ ∀ i, i < (red (fun i => if i = n then c else W i) (n + 1)).1 → T'.2 0 i = nI ((red (fun i => if i = n then c else W i) (n + 1)).2 i)) := by
  have h0 := h.1
  have h2 := h.2.2.1
  have e : f_X3_size T = some (nI n) := by unfold f_X3_size; rw [h2]
  rw [e, bd_s]
  refine ⟨fun q => ?_, fun q => ?_⟩
  · rw [if_neg (by rw [l_16, nI_ltI (by omega) (by omega)]; omega)]
  · obtain ⟨T', t1, t2, t3, t4⟩ := append_c h hc (by omega)
    refine ⟨T', ?_, t2, t3, t4⟩
    rw [if_pos (by rw [l_16, nI_ltI (by omega) (by omega)]; omega), t1, bd_s, nm_s]
    show some ((if k = k then T' else X k).1 2, _) = _
    rw [if_pos rfl, t2]
theorem s_cross : Sim_cross Rl := fun X o h x y => by
  obtain ⟨v, ht, -, ⟨m, W, h0⟩, ⟨m', W', h1⟩, -⟩ := id h
  unfold f_X7_cross f_X8_cross
  rw [rope_c, rope_m, bd_s, bd_s, rng_m y 7 (by omega) 7 (by decide), l_8, lt_c y 8 (by omega)]
  have no : ∀ z : Int32, ∃ (r : Int32) (X_ : Nat → Ob) (o_ : Ob), some (z, X) = some (r, X_) ∧ some (z, o) = some (r, o_) ∧ Rl X_ o_ := fun z => ⟨z, X, o, rfl, rfl, h⟩
  cases q : inb x 2
  · exact no _
  · rw [if_neg (show ¬ b2i true = (0 : Int32) by decide), if_neg (show ¬ b2i true = (0 : Int32) by decide), bd_s]
    cases q2 : inb y 8
    · exact no _
    · obtain ⟨c, hc, rfl⟩ := inb_of (by omega) q2
      rw [if_pos rfl, if_neg (show ¬ b2i true = (0 : Int32) by decide)]
      rcases rope2 q with rfl | rfl
      · have cm := cross_m (r := 0) (c := c) (by omega) h0
        have cc := cross_c h0 hc (X := X) (k := 10)
        rw [show f_X7_ropeAt X (0 : Int32) = some 10 from rfl, bd_s, if_pos rfl]
        by_cases q3 : m = 16
        · rw [if_pos q3] at cm
          exact ⟨(-3 : Int32), X, o, cc.1 q3, cm, h⟩
        · rw [if_neg q3] at cm
          obtain ⟨T', t1, t2, t3, t4⟩ := cc.2 q3
          have hm := h0.1
          refine ⟨nI (m + 1), sX X 10 T', _, t1, cm, h.rope (fun j h10 _ => ?_) rfl (fun i h18 h19 => ?_) ⟨m + 1, _, cross_rr (by omega) h0 hc (by omega) t2 t3 t4⟩ ⟨m', W', other_rr (r := 0) (k := 0) (by omega) (by omega) (by omega) h1 (by omega)⟩⟩
          · show (if j = 10 then T' else X j) = _
            rw [if_neg h10]
          · show (if i = 18 then _ else if i = 19 then _ else o.2 i) = _
            rw [if_neg h18, if_neg h19]
      · have cm := cross_m (r := 1) (c := c) (by omega) h1
        have cc := cross_c h1 hc (X := X) (k := 11)
        rw [show f_X7_ropeAt X (1 : Int32) = some 11 from rfl, bd_s, if_neg (show ¬ 11 = 10 by omega), if_pos rfl]
        by_cases q3 : m' = 16
        · rw [if_pos q3] at cm
          exact ⟨(-3 : Int32), X, o, cc.1 q3, cm, h⟩
        · rw [if_neg q3] at cm
          obtain ⟨T', t1, t2, t3, t4⟩ := cc.2 q3
          have hm := h1.1
          refine ⟨nI (m' + 1), sX X 11 T', _, t1, cm, h.rope (fun j _ h11 => ?_) rfl (fun i h18 h19 => ?_) ⟨m, W, other_rr (r := 1) (k := 0) (by omega) (by omega) (by omega) h0 (by omega)⟩ ⟨m' + 1, _, cross_rr (by omega) h1 hc (by omega) t2 t3 t4⟩⟩
          · show (if j = 11 then T' else X j) = _
            rw [if_neg h11]
          · show (if i = 18 then _ else if i = 19 then _ else o.2 i) = _
            rw [if_neg h18, if_neg h19]
theorem rr_empty {r : Nat} {T : Ob} {a b : Nat → Int32} (ha : a r = nI 0) : RR r (sF (sF T 1 (nI 0)) 2 (nI 0)) a b 0 (fun _ => 0) :=
  ⟨by omega, fun i hi => by omega, rfl, rfl, fun i hi => by simp [red] at hi, ha, fun i hi => by omega⟩
theorem rr_18 {r r' : Nat} (hne : r' ≠ r) {T o : Ob} {n : Nat} {W : Nat → Nat} {y : Int32} (h : RR r' T (o.2 18) (o.2 19) n W) : RR r' T ((sA o 18 r y).2 18) ((sA o 18 r y).2 19) n W := by
  obtain ⟨a0, a1, a2, a3, a4, a5, a6⟩ := h
  refine ⟨a0, a1, a2, a3, a4, ?_, a6⟩
  rw [sA2, if_neg (by omega)]; exact a5
theorem s_smooth : Sim_smooth Rl := fun X o h x => by
  obtain ⟨v, ht, -, ⟨m, W, h0⟩, ⟨m', W', h1⟩, -⟩ := id h
  unfold f_X7_smooth f_X8_smooth
  rw [rope_c, rope_m, bd_s, bd_s]
  cases q : inb x 2
  · exact ⟨(-1 : Int32), X, o, rfl, rfl, h⟩
  · rw [if_neg (show ¬ b2i true = (0 : Int32) by decide), if_neg (show ¬ b2i true = (0 : Int32) by decide)]
    rcases rope2 q with rfl | rfl
    · refine ⟨nI m, sX X 10 (sF (sF (X 10) 1 (nI 0)) 2 (nI 0)), sA o 18 0 (nI 0), ?_, ?_, h.rope (fun j h10 _ => ?_) rfl (fun i h18 h19 => ?_) ⟨0, _, rr_empty (by rw [sA2, if_pos ⟨rfl, rfl⟩])⟩ ⟨m', W', rr_18 (by omega) h1⟩⟩
      · show some ((X 10).1 2, _) = _
        rw [h0.2.2.1]; rfl
      · show some (o.2 18 0, _) = _
        rw [h0.2.2.2.2.2.1]; rfl
      · show (if j = 10 then _ else X j) = _
        rw [if_neg h10]
      · show (if i = 18 then _ else o.2 i) = _
        rw [if_neg h18]
    · refine ⟨nI m', sX X 11 (sF (sF (X 11) 1 (nI 0)) 2 (nI 0)), sA o 18 1 (nI 0), ?_, ?_, h.rope (fun j _ h11 => ?_) rfl (fun i h18 h19 => ?_) ⟨m, W, rr_18 (by omega) h0⟩ ⟨0, _, rr_empty (by rw [sA2, if_pos ⟨rfl, rfl⟩])⟩⟩
      · show some ((X 11).1 2, _) = _
        rw [h1.2.2.1]; rfl
      · show some (o.2 18 1, _) = _
        rw [h1.2.2.2.2.2.1]; rfl
      · show (if j = 11 then _ else X j) = _
        rw [if_neg h11]
      · show (if i = 18 then _ else o.2 i) = _
        rw [if_neg h18]
