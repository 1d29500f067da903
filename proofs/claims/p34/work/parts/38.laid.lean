/-! ===== a town laid, the two starts, all of it (own text) ===== -/
theorem s_lay : Sim_lay Rl := fun X o h => by
  obtain ⟨v, hv0⟩ := id h
  have hr : RV v X o := hv0
  obtain ⟨t, ⟨n, B, tx⟩, -, -, -, -, -⟩ := id hr
  obtain ⟨z, a, T3, o', c1, c2, c3, c4⟩ := read_both tx (X 3) (X 1)
  have hrl : Rl (sX (sX X 1 a) 3 T3) o' := h.fr (fun j h1 h3 h8 => by rw [sX_ne h3, sX_ne h1]) c3
  unfold f_X7_lay f_X8_lay
  rw [c1, c2, bd_s, bd_s, nm_s]
  by_cases q : z = (-4 : Int32)
  · obtain ⟨w, w1, w2, w3⟩ := c4 q
    have w8 := w3.2.2.2.1
    simp only [if_pos q]
    rw [sX_eq, w1.2.2.2.1, w2.2.2.2.1]
    by_cases q2 : w.1 3 = 0
    · rw [if_neg (by rw [l_1, nI_leI (by omega) (by omega)]; omega), if_pos (by rw [q2]; rfl)]
      exact ⟨(-2 : Int32), _, o', rfl, rfl, hrl⟩
    · rw [if_pos (by rw [l_1, nI_leI (by omega) (by omega)]; omega), if_neg (by rw [l_0, nI_eq (by omega) (by omega)]; exact q2)]
      obtain ⟨T, t1, t2⟩ := copy_c (T := sX (sX X 1 a) 3 T3 2) w1 w3
      rw [t1, bd_s, nm_s]
      obtain ⟨d0, d1, d2, d3, d4, d5, d6⟩ := id w2
      have f1 : (sA o' 2 0 (o'.2 2 1)).2 3 1 = nI (w.1 1) := d1
      have f2 : (sA (sA o' 2 0 (o'.2 2 1)) 3 0 (nI (w.1 1))).2 4 1 = nI (w.1 2) := d2
      have m4 : MB (sA (sA (sA o' 2 0 (o'.2 2 1)) 3 0 (nI (w.1 1))) 4 0 (nI (w.1 2))) 0 1 w := by
        refine ⟨?_, ?_, ?_, d3, d4, d5, d6⟩
        · rw [sA2, if_neg (by omega), sA2, if_neg (by omega), sA2, if_pos ⟨rfl, rfl⟩]; exact d0
        · rw [sA2, if_neg (by omega), sA2, if_pos ⟨rfl, rfl⟩]
        · rw [sA2, if_pos ⟨rfl, rfl⟩]
      obtain ⟨o1, b1, b2, b3⟩ := copy_m m4 (by omega) (show 0 < 4 by omega) (by omega) w3
      rw [nm_s, f1, nm_s, f2, nm_s, show (1 : Int32) = nI 1 from rfl, show (0 : Int32) = nI 0 from rfl, b1, bd_s]
      have w' (i : Nat) (hi : i = 1) : o1.2 i = o'.2 i := by
        rw [fb_w b3 (fun j => by unfold tcb; omega)]
        subst hi; rfl
      refine ⟨nI (w.1 3), sX (sX (sX (sX (sX (sX (sX (sX X 1 a) 3 T3) 2 T) 9 (sF (X 9) 1 (nI 0))) 10 (sF (sF (X 10) 1 (nI 0)) 2 (nI 0))) 11 (sF (sF (X 11) 1 (nI 0)) 2 (nI 0))) 7 (sF (X 7) 3 (nI 0))) 6 (sF (X 6) 6 (nI 0)), sA (sA (sF (sF (sF o1 13 (nI 0)) 14 (nI 0)) 16 (nI 0)) 18 0 (nI 0)) 18 1 (nI 0), ?_, ?_, w, ?_, ⟨n, B, ?_⟩, ⟨0, fun _ => 0, ?_⟩, ⟨0, fun _ => 0, ?_⟩, ⟨0, fun _ => 0, ?_⟩, ⟨0, fun _ => 0, fun _ => 0, fun _ => 0, ?_⟩, ⟨0, fun _ => w, ?_⟩⟩
      · show some (T.1 9, _) = _
        rw [t2.2.2.2.1]; rfl
      · show some (o1.2 5 0, _) = _
        rw [b2.2.2.2.1]
      · rw [sX_ne (by omega), sX_ne (by omega), sX_ne (by omega), sX_ne (by omega), sX_ne (by omega), sX_eq]
        exact ⟨t2, b2, w3, (by omega)⟩
      · have tx' := c3.tx tx
        rw [sX_ne (by omega), sX_ne (by omega), sX_ne (by omega), sX_ne (by omega), sX_ne (by omega), sX_ne (by omega), sX_ne (by omega), sX_ne (by omega)]
        obtain ⟨e0, e1, e2, e3⟩ := tx'
        refine ⟨e0, e1, ?_, fun i hi => ⟨(e3 i hi).1, (e3 i hi).2.1, ?_⟩⟩
        · show o1.1 0 = _
          rw [b3.1]; exact e2
        · show o1.2 1 i = _
          rw [w' 1 rfl]; exact (e3 i hi).2.2
      · rw [sX_ne (by omega), sX_ne (by omega), sX_ne (by omega), sX_eq]
        exact rr_empty (by rw [sA2, if_neg (by omega), sA2, if_pos ⟨rfl, rfl⟩])
      · rw [sX_ne (by omega), sX_ne (by omega), sX_eq]
        exact rr_empty (by rw [sA2, if_pos ⟨rfl, rfl⟩])
      · rw [sX_ne (by omega), sX_ne (by omega), sX_ne (by omega), sX_ne (by omega), sX_eq]
        exact rw_empty
      · rw [sX_ne (by omega), sX_eq]
        exact rp_empty
      · rw [sX_eq]
        exact ⟨by omega, rfl, rfl, fun i hi => by omega, fun h => by omega, fun h => by omega⟩
  · simp only [if_neg q]
    exact ⟨(-2 : Int32), _, o', rfl, rfl, hrl⟩
theorem start_both : ∃ X0 o0, f_X7_init = some X0 ∧ f_X8_init = some o0 ∧ Rl X0 o0 := by
  have hz : TC Z0 v0 := ⟨rfl, rfl, rfl, rfl, rfl, rfl, fun k hk => by exact absurd hk (Nat.not_lt_zero k)⟩
  have k0 := vP_ok v0_ok (x := 1) (by omega) (by decide)
  have k1 := vP_ok k0 (x := 1) (by omega) (by decide)
  have k2 := vP_ok k1 (x := 1) (by omega) (by decide)
  obtain ⟨T1, a1, b1⟩ := (addPerson_c hz v0_ok (x := 1) (by omega)).1 ⟨by omega, by decide⟩
  obtain ⟨T2, a2, b2⟩ := (addPerson_c b1 k0 (x := 1) (by omega)).1 ⟨by omega, by decide⟩
  obtain ⟨T3, a3, b3⟩ := (addPerson_c b2 k1 (x := 1) (by omega)).1 ⟨by omega, by decide⟩
  have k3 := vK_ok k2 (a := 0) (c := 1) (t := 0) (d := 5) (k := 0) (by decide) (by decide) (by decide) (by decide) (by decide) (by decide) (by decide)
  have k4 := vK_ok k3 (a := 1) (c := 2) (t := 1) (d := 9) (k := 0) (by decide) (by decide) (by decide) (by decide) (by decide) (by decide) (by decide)
  obtain ⟨T4, a4, b4⟩ := addKnot_c b3 k2 (a := 0) (c := 1) (t := 0) (d := 5) (k := 0) (by decide) (by decide) (by decide) (by decide)
  obtain ⟨T5, a5, b5⟩ := addKnot_c b4 k3 (a := 1) (c := 2) (t := 1) (d := 9) (k := 0) (by decide) (by decide) (by decide) (by decide)
  refine ⟨sX (sX (sX (sX (sX (fun _ => Z0) 2 T1) 2 T2) 2 T3) 2 T4) 2 T5, (f_X8_init).getD Z0, ?_, rfl, _, ⟨?_, ?_, k4, by decide⟩, ⟨0, fun _ => 0, by omega, rfl, rfl, fun i hi => by omega⟩, ⟨0, fun _ => 0, by omega, fun i hi => by omega, rfl, rfl, fun i hi => by simp [red] at hi, rfl, fun i hi => by omega⟩, ⟨0, fun _ => 0, by omega, fun i hi => by omega, rfl, rfl, fun i hi => by simp [red] at hi, rfl, fun i hi => by omega⟩, ⟨0, fun _ => 0, by omega, rfl, rfl, fun i hi => by omega, fun i j _ hj => by omega⟩, ⟨0, fun _ => 0, fun _ => 0, fun _ => 0, by omega, rfl, rfl, fun i hi => by omega, fun i j _ hj => by omega⟩, ⟨0, fun _ => v0, by omega, rfl, rfl, fun i hi => by omega, fun h => by omega, fun h => by omega⟩⟩
  · unfold f_X7_init
    have a1 : f_X6_addPerson Z0 (1 : Int32) = some ((1 : Int32), T1) := a1
    rw [a1, bd_s, nm_s, sX_eq]
    have a2 : f_X6_addPerson T1 (1 : Int32) = some ((1 : Int32), T2) := a2
    rw [a2, bd_s, nm_s, sX_eq]
    have a3 : f_X6_addPerson T2 (1 : Int32) = some ((1 : Int32), T3) := a3
    rw [a3, bd_s, nm_s, sX_eq]
    have a4 : f_X6_addKnot T3 (0 : Int32) (1 : Int32) (0 : Int32) (5 : Int32) (0 : Int32) = some ((1 : Int32), T4) := a4
    rw [a4, bd_s, nm_s, sX_eq]
    have a5 : f_X6_addKnot T4 (1 : Int32) (2 : Int32) (1 : Int32) (9 : Int32) (0 : Int32) = some ((1 : Int32), T5) := a5
    rw [a5]; rfl
  · rw [sX_eq]; exact b5
  · refine ⟨rfl, rfl, rfl, rfl, rfl, rfl, fun k hk => ?_⟩
    have : k = 0 ∨ k = 1 := by
      have : k < 2 := hk
      omega
    rcases this with rfl | rfl
    · exact ⟨rfl, rfl, rfl, rfl, rfl⟩
    · exact ⟨rfl, rfl, rfl, rfl, rfl⟩
theorem all_sim : Sim Rl := ⟨s_write, s_wipe, s_fault, s_lay, s_knot, s_person, s_may, s_undo, s_tie, s_pull, s_cut, s_days, s_takeBack, s_loosen, s_pay, s_forEver, s_frees, s_fresh, s_orders, s_tell, s_noRow, s_judge, s_cross, s_smooth, s_loose, s_alike, s_mark, s_year, s_keep, s_back, s_count⟩
