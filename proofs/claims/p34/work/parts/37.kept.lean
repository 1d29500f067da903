/-! ===== towns kept, a town laid (own text) ===== -/
theorem fb_sF {b : Nat} {o o' : Ob} {k : Nat} {x : Int32} (h : FB b o o') : FB b (sF o k x) (sF o' k x) := ⟨by funext i; rw [sF1, sF1, h.1], h.2⟩
theorem fb_w {b : Nat} {o o' : Ob} (h : FB b o o') {i : Nat} (hi : ∀ j, ¬ tcb b i j) : o'.2 i = o.2 i := funext (fun j => h.2 i j (hi j))
theorem keep1 {X X' : Nat → Ob} {o : Ob} {v : TV} (h : RV v X o) {kn : Nat} {U : Nat → TV} (hk : RK (X 4) (X 5) (X 6) o v kn U) (h2 : kn < 2) {T : Ob} (hT : TC T v) (hX : X' = sX (sX X (4 + kn) T) 6 (sF (X 6) 6 (nI (kn + 1)))) : ∃ o', f_X8_copy (sF o 13 (nI (kn + 1))) (nI 0) (nI (kn + 2)) = some o' ∧ o'.1 13 = nI (kn + 1) ∧ RV v X' o' := by
  obtain ⟨t, ⟨n, B, tx⟩, ⟨m, W, r0⟩, ⟨m', W', r1⟩, ⟨rn, R, rw'⟩, ⟨pn, K, S, D, rp⟩, -⟩ := h
  have hv := t.2.2.1
  have m0 : MB (sF o 13 (nI (kn + 1))) 0 0 v := t.2.1
  obtain ⟨o', c1, c2, c3⟩ := copy_m m0 (by omega) (show kn + 2 < 4 by omega) (by omega) hv
  refine ⟨o', c1, by rw [c3.1]; rfl, ?_⟩
  subst hX
  have ne (j : Nat) (h1 : j ≠ 4 + kn) (h2 : j ≠ 6) : sX (sX X (4 + kn) T) 6 (sF (X 6) 6 (nI (kn + 1))) j = X j := by rw [sX_ne h2, sX_ne h1]
  have w (i : Nat) (hi : i = 1 ∨ (13 ≤ i)) : o'.2 i = o.2 i := fb_w c3 (fun j => by unfold tcb; omega)
  have f (i : Nat) (hi : i ≠ 13) : o'.1 i = o.1 i := by rw [c3.1, sF1, if_neg hi]
  obtain ⟨a1, a2, a3, a4, a5, a6⟩ := hk
  refine ⟨?_, ⟨n, B, ?_⟩, ⟨m, W, ?_⟩, ⟨m', W', ?_⟩, ⟨rn, R, ?_⟩, ⟨pn, K, S, D, ?_⟩, ⟨kn + 1, fun i => if i = kn then v else U i, ?_⟩⟩
  · rw [ne 2 (by omega) (by omega)]
    exact ⟨t.1, c3.mb (by omega) hv.2.2.2.1 m0, t.2.2⟩
  · rw [ne 0 (by omega) (by omega)]
    obtain ⟨a, b, c, d⟩ := tx
    exact ⟨a, b, (f 0 (by omega)).trans c, fun i hi => ⟨(d i hi).1, (d i hi).2.1, by rw [w 1 (by omega)]; exact (d i hi).2.2⟩⟩
  · rw [ne 10 (by omega) (by omega), w 18 (by omega), w 19 (by omega)]; exact r0
  · rw [ne 11 (by omega) (by omega), w 18 (by omega), w 19 (by omega)]; exact r1
  · rw [ne 9 (by omega) (by omega), f 16 (by omega), w 17 (by omega)]; exact rw'
  · rw [ne 7 (by omega) (by omega), f 14 (by omega), w 15 (by omega)]; exact rp
  · refine ⟨by omega, by rw [sX_eq]; rfl, by rw [c3.1]; rfl, fun i hi => ?_, fun _ => ?_, fun h1 => ?_⟩
    · by_cases q : i = kn
      · simp only [if_pos q]
        refine ⟨⟨trivial, trivial, trivial⟩, hv, t.2.2.2, ?_⟩
        rw [q, Nat.add_comm 2 kn]; exact c2
      · simp only [if_neg q]
        have e := a4 i (by omega)
        have mm : MB (sF o 13 (nI (kn + 1))) 0 (2 + i) (U i) := e.2.2.2
        exact ⟨e.1, e.2.1, e.2.2.1, c3.mb (by omega) e.2.1.2.2.2.1 mm⟩
    · by_cases q : kn = 0
      · subst q
        rw [sX_ne (by omega), sX_eq]; simp only [if_true]; exact hT
      · rw [ne 4 (by omega) (by omega)]
        show TC (X 4) (if 0 = kn then v else U 0)
        rw [if_neg (by omega)]; exact a5 (by omega)
    · have q : kn = 1 := by omega
      subst q
      rw [sX_ne (by omega), sX_eq]; simp only [if_true]; exact hT
theorem s_keep : Sim_keep Rl := fun X o h => by
  obtain ⟨v, hv0⟩ := id h
  have hr : RV v X o := hv0
  obtain ⟨t, -, -, -, -, -, ⟨kn, U, hk⟩⟩ := id hr
  have hv := t.2.2.1
  obtain ⟨a1, a2, a3, a4, a5, a6⟩ := id hk
  unfold f_X7_keep f_X8_keep
  rw [a2, a3]
  by_cases q : kn < 2
  · rw [if_pos (by rw [l_2, nI_ltI (by omega) (by omega)]; exact q), if_neg (by rw [l_2, nI_eq (by omega) (by omega)]; omega), l_1, nI_add, nm_s]
    have e13 : (sF o 13 (nI (kn + 1))).1 13 = nI (kn + 1) := rfl
    rw [e13, nI_add, show (0 : Int32) = nI 0 from rfl, show 1 + (kn + 1) = kn + 2 by omega]
    have hc : kn = 0 ∨ kn = 1 := by omega
    rcases hc with rfl | rfl
    · obtain ⟨T, t1, t2⟩ := copy_c (T := X 4) t.1 hv
      obtain ⟨o', b1, b2, b3⟩ := keep1 hr hk (by omega) t2 rfl
      rw [show f_X7_keptAt X (nI 0) = some 4 from rfl, bd_s, if_pos rfl, t1, bd_s, nm_s, nm_s, b1, bd_s, b2]
      refine ⟨nI 1, sX (sX X (4 + 0) T) 6 (sF (X 6) 6 (nI (0 + 1))), o', ?_, rfl, v, b3⟩
      rw [show (sX X 4 T) 6 = X 6 from sX_ne (by omega), a2, nI_add, sX_eq]; rfl
    · obtain ⟨T, t1, t2⟩ := copy_c (T := X 5) t.1 hv
      obtain ⟨o', b1, b2, b3⟩ := keep1 hr hk (by omega) t2 rfl
      rw [show f_X7_keptAt X (nI 1) = some 5 from rfl, bd_s, if_neg (show ¬ 5 = 4 by omega), if_pos rfl, t1, bd_s, nm_s, nm_s, b1, bd_s, b2]
      refine ⟨nI 2, sX (sX X (4 + 1) T) 6 (sF (X 6) 6 (nI (1 + 1))), o', ?_, rfl, v, b3⟩
      rw [show (sX X 5 T) 6 = X 6 from sX_ne (by omega), a2, nI_add, sX_eq]; rfl
  · have : kn = 2 := by omega
    subst this
    exact ⟨(-3 : Int32), X, o, rfl, rfl, h⟩
theorem rp_empty {T : Ob} {b : Nat → Int32} {nk : Nat} : RP (sF T 3 (nI 0)) (nI 0) b nk 0 (fun _ => 0) (fun _ => 0) (fun _ => 0) := ⟨by omega, rfl, rfl, fun i hi => by omega, fun i j _ hj => by omega⟩
theorem back1 {X : Nat → Ob} {o : Ob} {v : TV} (h : RV v X o) {p : Nat} {U : Nat → TV} (hk : RK (X 4) (X 5) (X 6) o v (p + 1) U) {T : Ob} (hT : TC T (U p)) : ∃ o1, f_X8_copy o (nI (p + 2)) (nI 0) = some o1 ∧ o1.1 = o.1 ∧ RV (U p) (sX (sX (sX (sX X 6 (sF (X 6) 6 (nI p))) 2 T) 7 (sF (X 7) 3 (nI 0))) 9 (sF (X 9) 1 (nI 0))) (sF (sF (sF o1 13 (nI p)) 14 (nI 0)) 16 (nI 0)) := by
  obtain ⟨t, ⟨n, B, tx⟩, ⟨m, W, r0⟩, ⟨m', W', r1⟩, -, -, -⟩ := h
  obtain ⟨a1, a2, a3, a4, a5, a6⟩ := hk
  have e := a4 p (by omega)
  have mp : MB o 0 (p + 2) (U p) := by
    have := e.2.2.2
    rwa [Nat.add_comm] at this
  obtain ⟨o1, c1, c2, c3⟩ := copy_m mp (by omega) (show 0 < 4 by omega) (by omega) e.2.1
  refine ⟨o1, c1, c3.1, ?_⟩
  have w (i : Nat) (hi : i = 1 ∨ (13 ≤ i)) : o1.2 i = o.2 i := fb_w c3 (fun j => by unfold tcb; omega)
  have ne (j : Nat) (h1 : j ≠ 2) (h2 : j ≠ 6) (h3 : j ≠ 7) (h4 : j ≠ 9) : (sX (sX (sX (sX X 6 (sF (X 6) 6 (nI p))) 2 T) 7 (sF (X 7) 3 (nI 0))) 9 (sF (X 9) 1 (nI 0))) j = X j := by rw [sX_ne h4, sX_ne h3, sX_ne h1, sX_ne h2]
  refine ⟨?_, ⟨n, B, ?_⟩, ⟨m, W, ?_⟩, ⟨m', W', ?_⟩, ⟨0, fun _ => 0, ?_⟩, ⟨0, fun _ => 0, fun _ => 0, fun _ => 0, ?_⟩, ⟨p, U, ?_⟩⟩
  · rw [sX_ne (by omega), sX_ne (by omega), sX_eq]
    exact ⟨hT, c2, e.2.1, e.2.2.1⟩
  · rw [ne 0 (by omega) (by omega) (by omega) (by omega)]
    obtain ⟨a, b, c, d⟩ := tx
    refine ⟨a, b, ?_, fun i hi => ⟨(d i hi).1, (d i hi).2.1, ?_⟩⟩
    · show o1.1 0 = _
      rw [c3.1]; exact c
    · show o1.2 1 i = _
      rw [w 1 (by omega)]; exact (d i hi).2.2
  · rw [ne 10 (by omega) (by omega) (by omega) (by omega)]
    show RR 0 (X 10) (o1.2 18) (o1.2 19) m W
    rw [w 18 (by omega), w 19 (by omega)]; exact r0
  · rw [ne 11 (by omega) (by omega) (by omega) (by omega)]
    show RR 1 (X 11) (o1.2 18) (o1.2 19) m' W'
    rw [w 18 (by omega), w 19 (by omega)]; exact r1
  · rw [sX_eq]; exact rw_empty
  · rw [sX_ne (by omega), sX_eq]; exact rp_empty
  · rw [ne 4 (by omega) (by omega) (by omega) (by omega), ne 5 (by omega) (by omega) (by omega) (by omega), sX_ne (by omega), sX_ne (by omega), sX_ne (by omega), sX_eq]
    refine ⟨by omega, rfl, rfl, fun i hi => ?_, fun h0 => a5 (by omega), fun h1 => a6 (by omega)⟩
    have ei := a4 i (by omega)
    have mm : MB o1 0 (2 + i) (U i) := c3.mb (by omega) ei.2.1.2.2.2.1 ei.2.2.2
    exact ⟨⟨ei.1.1.trans e.1.1.symm, ei.1.2.1.trans e.1.2.1.symm, ei.1.2.2.trans e.1.2.2.symm⟩, ei.2.1, ei.2.2.1, mm⟩
theorem s_back : Sim_back Rl := fun X o h => by
  obtain ⟨v, hv0⟩ := id h
  have hr : RV v X o := hv0
  obtain ⟨t, -, -, -, -, -, ⟨kn, U, hk⟩⟩ := id hr
  obtain ⟨a1, a2, a3, a4, a5, a6⟩ := id hk
  unfold f_X7_back f_X8_back
  rw [a2, a3]
  by_cases q : kn = 0
  · subst q
    exact ⟨(-2 : Int32), X, o, rfl, rfl, h⟩
  · obtain ⟨p, rfl⟩ : ∃ p, kn = p + 1 := ⟨kn - 1, by omega⟩
    have e6 : (sF (X 6) 6 (nI p)).1 6 = nI p := rfl
    rw [if_pos (show (1 : Int32) ≤ nI (p + 1) from nI_le (a := 1) (by omega) (by omega)), if_neg (by rw [l_0, nI_eq (by omega) (by omega)]; omega), l_1, pk_sub (by omega), Nat.add_sub_cancel, nm_s, sX_eq, e6, nI_add, show 1 + (p + 1) = p + 2 by omega]
    have hc : p = 0 ∨ p = 1 := by omega
    rcases hc with rfl | rfl
    · obtain ⟨T, t1, t2⟩ := copy_c (T := X 2) (a5 (by omega)) (a4 0 (by omega)).2.1
      obtain ⟨o1, b1, b2, b3⟩ := back1 hr hk t2
      rw [show f_X7_keptAt (sX X 6 (sF (X 6) 6 (nI 0))) (nI 0) = some 4 from rfl, bd_s, if_pos rfl, sX_ne (by omega), sX_ne (by omega), t1, bd_s, nm_s, show (0 : Int32) = nI 0 from rfl, b1, bd_s, b2, a3, pk_sub (by omega)]
      exact ⟨nI 0, _, _, rfl, rfl, U 0, b3⟩
    · obtain ⟨T, t1, t2⟩ := copy_c (T := X 2) (a6 (by omega)) (a4 1 (by omega)).2.1
      obtain ⟨o1, b1, b2, b3⟩ := back1 hr hk t2
      rw [show f_X7_keptAt (sX X 6 (sF (X 6) 6 (nI 1))) (nI 1) = some 5 from rfl, bd_s, if_neg (show ¬ 5 = 4 by omega), if_pos rfl, sX_ne (by omega), sX_ne (by omega), t1, bd_s, nm_s, show (0 : Int32) = nI 0 from rfl, b1, bd_s, b2, a3, pk_sub (by omega)]
      exact ⟨nI 1, _, _, rfl, rfl, U 1, b3⟩
