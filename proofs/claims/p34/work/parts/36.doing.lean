/-! ===== days, the step back, a knot tied (own text) ===== -/
def vD (v : TV) (d : Nat) : TV := (fun i => if i = 5 then d else v.1 i, v.2)
theorem vD_ok {v : TV} (hv : TOK v) {d : Nat} (hd : d ≤ 99) : TOK (vD v d) := by
  obtain ⟨h0, h1, h2, h3, h4, h5, h6⟩ := hv
  exact ⟨h0, h1, h2, h3, h4, hd, h6⟩
theorem s_days : Sim_days Rl := fun X o h x => by
  obtain ⟨v, hv0⟩ := id h
  have hr : RV v X o := hv0
  obtain ⟨ht, -, -, -, ⟨rn, R, hw⟩, ⟨pn, K, S, D, hp⟩, -⟩ := id hr
  have hv := ht.2.2.1
  have hM := ht.m
  have hdy := hv.2.2.2.2.2.1
  unfold f_X7_days f_X8_days
  rw [inb_lit (lo := 1) (hi := 99) (by omega) (by omega) 1 99 (by decide) (by decide), bd_s]
  have c1 : (x < (1 : Int32)) = ¬ ((1 : Int) ≤ x.toInt) := by
    rw [Int32.lt_iff_toInt_lt, show (1 : Int32).toInt = 1 from by decide]; apply propext; omega
  have c2 : (x ≤ (99 : Int32)) = (x.toInt ≤ 99) := by
    rw [Int32.le_iff_toInt_le, show (99 : Int32).toInt = 99 from by decide]
  by_cases q1 : (1 : Int) ≤ x.toInt
  · by_cases q2 : x.toInt ≤ 99
    · obtain ⟨k, hk, rfl⟩ : ∃ m, m < 2 ^ 31 ∧ x = nI m := nI_of (by rw [Int32.lt_iff_toInt_lt, show (0 : Int32).toInt = 0 from by decide]; omega)
      have ek := nI_toInt hk
      have e3 : (decide (((1 : Nat) : Int) ≤ (nI k).toInt) && decide ((nI k).toInt ≤ ((99 : Nat) : Int))) = true := by
        rw [ek] at q1 q2 ⊢
        simp; omega
      rw [e3, if_neg (show ¬ b2i true = (0 : Int32) by decide), if_neg (by rw [c1]; exact not_not_intro q1), if_pos (by rw [c2]; exact q2), ht.1.2.2.2.2.2.1, hM.2.2.2.2.2.1, nI_add]
      by_cases q3 : v.1 5 + k ≤ 99
      · obtain ⟨T', o1, pn', K', S', D', n1, n2, n3, n4, n5⟩ := note_both hp ht.1 hM hv ht.2.2.2
        have fb : FB 0 o1 (sA o1 12 0 (nI (v.1 5 + k))) := FB.sA (by unfold tcb; omega)
        rw [if_pos (show nI (v.1 5 + k) ≤ (99 : Int32) from nI_le (b := 99) q3 (by omega)), if_pos (show nI (v.1 5 + k) ≤ (99 : Int32) from nI_le (b := 99) q3 (by omega)), n1, n2, bd_s, bd_s, nm_s, nm_s, nm_s, show sX X 7 T' 2 = X 2 from sX_ne (by omega), ht.1.2.2.2.2.2.1, nI_add, n5 12 (by omega), hM.2.2.2.2.2.1, nI_add]
        refine ⟨nI (v.1 5 + k), sX (sX X 7 T') 2 (sF (X 2) 11 (nI (v.1 5 + k))), sA o1 12 0 (nI (v.1 5 + k)), ?_, ?_, vD v (v.1 5 + k), hr.next (fun i a _ => n4 i a) n5 fb rfl rfl rfl (fun j a b c => ?_) ?_ ⟨rn, R, ?_⟩ ⟨pn', K', S', D', ?_⟩⟩
        · rw [sX_eq]; rfl
        · rw [sA2, if_pos ⟨rfl, rfl⟩]
        · rw [sX_ne a, sX_ne b]
        · rw [sX_eq]
          obtain ⟨c0, c1, c2, c3, c4, c5, c6⟩ := ht.1
          have m1 : MB o1 0 0 v := MB.eqs (fun j a b => n5 j (by omega)) ht.2.1
          obtain ⟨d0, d1, d2, d3, d4, d5, d6⟩ := m1
          exact ⟨⟨c0, c1, c2, c3, c4, rfl, c6⟩, ⟨d0, d1, d2, d3, d4, by rw [sA2, if_pos ⟨rfl, rfl⟩]; rfl, d6⟩, vD_ok hv q3, ht.2.2.2⟩
        · rw [sX_ne (by omega), sX_ne (by omega)]
          have e1 : (sA o1 12 0 (nI (v.1 5 + k))).1 16 = o.1 16 := n4 16 (by omega)
          have e2 : (sA o1 12 0 (nI (v.1 5 + k))).2 17 = o.2 17 := n5 17 (by omega)
          rw [e1, e2]; exact hw
        · rw [sX_ne (by omega), sX_eq]
          exact n3
      · have e : ¬ nI (v.1 5 + k) ≤ (99 : Int32) := by rw [l_99, nI_leI (by omega) (by omega)]; exact q3
        rw [if_neg e, if_neg e]
        exact ⟨(-2 : Int32), X, o, rfl, rfl, h⟩
    · have e3 : (decide (((1 : Nat) : Int) ≤ x.toInt) && decide (x.toInt ≤ ((99 : Nat) : Int))) = false := by
        simp; omega
      rw [e3, if_pos (show b2i false = (0 : Int32) from rfl), if_neg (by rw [c1]; exact not_not_intro q1), if_neg (by rw [c2]; exact q2)]
      exact ⟨(-1 : Int32), X, o, rfl, rfl, h⟩
  · have e3 : (decide (((1 : Nat) : Int) ≤ x.toInt) && decide (x.toInt ≤ ((99 : Nat) : Int))) = false := by
      simp; omega
    rw [e3, if_pos (show b2i false = (0 : Int32) from rfl), if_pos (by rw [c1]; exact q1)]
    exact ⟨(-1 : Int32), X, o, rfl, rfl, h⟩
def vB (v : TV) (k t d : Nat) : TV := (fun i => if i = 3 then k else if i = 4 then t else if i = 5 then d else v.1 i, v.2)
theorem rw_empty {T : Ob} {b : Nat → Int32} {nk : Nat} : RW (sF T 1 (nI 0)) (nI 0) b nk 0 (fun _ => 0) := ⟨by omega, rfl, rfl, fun i hi => by omega, fun i j _ hj => by omega⟩
theorem s_takeBack : Sim_takeBack Rl := fun X o h => by
  obtain ⟨v, hv0⟩ := id h
  have hr : RV v X o := hv0
  obtain ⟨ht, -, -, -, -, ⟨pn, K, S, D, hp⟩, -⟩ := id hr
  have hv := ht.2.2.1
  have hM := ht.m
  have h8 := hv.2.2.2.1
  obtain ⟨a0, a1, a2, a3, a4⟩ := hp
  unfold f_X7_takeBack f_X8_takeBack f_X1_size
  rw [a1, a2, bd_s]
  by_cases q : pn = 0
  · subst q
    exact ⟨(-2 : Int32), X, o, rfl, rfl, h⟩
  · have qn : ¬ nI pn = (0 : Int32) := by rw [l_0, nI_eq (by omega) (by omega)]; exact q
    obtain ⟨p, rfl⟩ : ∃ p, pn = p + 1 := ⟨pn - 1, by omega⟩
    have e := a3 p (by omega)
    have m0 : ∀ x, (sA (sF o 14 (nI p)) 5 0 x).2 15 = o.2 15 := fun x => rfl
    have m1 : ∀ x y, (sA (sA (sF o 14 (nI p)) 5 0 x) 11 0 y).2 15 = o.2 15 := fun x y => rfl
    have rs : f_X1_restore (X 7) (X 2) = some (sF (X 7) 3 (nI p), sF (sF (sF (X 2) 9 (nI (K p))) 10 (nI (S p))) 11 (nI (D p))) := by
      unfold f_X1_restore
      rw [a1, if_pos (show (1 : Int32) ≤ nI (p + 1) from nI_le (a := 1) (by omega) (by omega)), l_1, pk_sub (by omega)]
      simp only [nm_s, sF2, sF1, ↓reduceIte, Nat.add_sub_cancel]
      rw [ck_nI (by omega), gd_d (by omega), cl_nI (by omega), e.1.1, e.1.2.1, e.1.2.2]
    have ms : nm (sF o 14 (nI (p + 1) - (1 : Int32))) (fun s1 => gd (ck ((3 : Int32) * (s1.1 14)) 24) (nm (sA s1 5 0 (s1.2 15 ((3 : Int32) * (s1.1 14)).toNatClampNeg)) (fun s3 => gd (ck (((3 : Int32) * (s3.1 14)) + (1 : Int32)) 24) (nm (sA s3 11 0 (s3.2 15 (((3 : Int32) * (s3.1 14)) + (1 : Int32)).toNatClampNeg)) (fun s5 => gd (ck (((3 : Int32) * (s5.1 14)) + (2 : Int32)) 24) (nm (sA s5 12 0 (s5.2 15 (((3 : Int32) * (s5.1 14)) + (2 : Int32)).toNatClampNeg)) (fun s7 => nm (sF s7 16 (0 : Int32)) (fun s8 => some (s8.1 14, s8)))))))) ) = some (nI p, sF (sA (sA (sA (sF o 14 (nI p)) 5 0 (nI (K p))) 11 0 (nI (S p))) 12 0 (nI (D p))) 16 (nI 0)) := by
      rw [l_1, pk_sub (by omega), Nat.add_sub_cancel]
      simp only [nm_s, sA1, sF1, ↓reduceIte]
      rw [l_3, l_2, pk_mul, nI_add, nI_add, ck_nI (by omega), ck_nI (by omega), ck_nI (by omega), gd_d (by omega), gd_d (by omega), gd_d (by omega), cl_nI (by omega), cl_nI (by omega), cl_nI (by omega), m1, m0, sF2, e.2.1.1, e.2.1.2.1, e.2.1.2.2]
      rfl
    rw [if_neg qn, if_neg qn, rs, bd_s, nm_s]
    refine ⟨nI p, sX (sX (sX X 7 (sF (X 7) 3 (nI p))) 2 (sF (sF (sF (X 2) 9 (nI (K p))) 10 (nI (S p))) 11 (nI (D p)))) 9 (sF (X 9) 1 (nI 0)), _, ?_, ms, vB v (K p) (S p) (D p), ?_⟩
    · show some ((sX (sX (sX X 7 (sF (X 7) 3 (nI p))) 2 (sF (sF (sF (X 2) 9 (nI (K p))) 10 (nI (S p))) 11 (nI (D p)))) 9 (sF (X 9) 1 (nI 0)) 7).1 3, _) = _
      rw [sX_ne (by omega), sX_ne (by omega), sX_eq]; rfl
    · have fb : FB 0 (sF (sF o 14 (nI p)) 16 (nI 0)) (sF (sA (sA (sA (sF o 14 (nI p)) 5 0 (nI (K p))) 11 0 (nI (S p))) 12 0 (nI (D p))) 16 (nI 0)) := by
        have t1 : FB 0 (sF (sF o 14 (nI p)) 16 (nI 0)) (sA (sA (sA (sF (sF o 14 (nI p)) 16 (nI 0)) 5 0 (nI (K p))) 11 0 (nI (S p))) 12 0 (nI (D p))) := ((FB.sA (by unfold tcb; omega)).tr (FB.sA (by unfold tcb; omega))).tr (FB.sA (by unfold tcb; omega))
        exact t1
      refine hr.next (o1 := sF (sF o 14 (nI p)) 16 (nI 0)) (fun i a b => ?_) (fun i _ => rfl) fb rfl rfl rfl (fun j a b c => ?_) ?_ ⟨0, fun _ => 0, ?_⟩ ⟨p, K, S, D, ?_⟩
      · rw [sF1, if_neg b, sF1, if_neg a]
      · rw [sX_ne c, sX_ne a, sX_ne b]
      · rw [sX_ne (by omega), sX_eq]
        obtain ⟨c0, c1, c2, c3, c4, c5, c6⟩ := ht.1
        obtain ⟨d0, d1, d2, d3, d4, d5, d6⟩ := ht.2.1
        have hk8 : K p ≤ v.1 3 := e.2.2.2.1
        obtain ⟨b0, b1, b2, b3, b4, b5, b6⟩ := hv
        refine ⟨⟨c0, c1, c2, rfl, rfl, rfl, fun k hk => c6 k (by have : k < K p := hk; omega)⟩, ⟨d0, d1, d2, ?_, ?_, ?_, fun k hk => d6 k (by have : k < K p := hk; omega)⟩, ⟨b0, b1, b2, (by show K p ≤ 8; omega), e.2.2.2.2.1, e.2.2.2.2.2, fun k hk => b6 k (by have : k < K p := hk; omega)⟩, e.2.2.1⟩
        · rw [sF2, sA2, if_neg (by omega), sA2, if_neg (by omega), sA2, if_pos ⟨rfl, rfl⟩]; rfl
        · rw [sF2, sA2, if_neg (by omega), sA2, if_pos ⟨rfl, rfl⟩]; rfl
        · rw [sF2, sA2, if_pos ⟨rfl, rfl⟩]; rfl
      · rw [sX_eq]; exact rw_empty
      · rw [sX_ne (by omega), sX_ne (by omega), sX_eq]
        refine ⟨by omega, rfl, rfl, fun i hi => ?_, fun i j hij hj => a4 i j hij (by omega)⟩
        have ei := a3 i (by omega)
        exact ⟨ei.1, ei.2.1, ei.2.2.1, a4 i p (by omega) (by omega), ei.2.2.2.2⟩
theorem s_tie : Sim_tie Rl := fun X o h x1 x2 x3 x4 x5 => by
  obtain ⟨v, hv0⟩ := id h
  have hr : RV v X o := hv0
  obtain ⟨ht, -, -, -, -, ⟨pn, K, S, D, hp⟩, -⟩ := id hr
  have hv := ht.2.2.1
  have hM := ht.m
  have h6 := hv.1
  have h8 := hv.2.2.2.1
  have hal := hv.al
  have hpw : 2 ^ v.1 3 ≤ 256 := Nat.pow_le_pow_right (n := 2) (i := v.1 3) (j := 8) (by omega) h8
  unfold f_X7_tie f_X8_tie
  rw [suits_c ht.1 hv, show (0 : Int32) = nI 0 from rfl, isKnot_m ht.2.1 (by omega) hv, bd_s, bd_s]
  cases hg : good v x1 x2 x3 x4 x5
  · exact ⟨(-1 : Int32), X, o, rfl, rfl, h⟩
  · obtain ⟨a, c, t, d, k, rfl, rfl, rfl, rfl, rfl, l1, l2, l3, l4, l5, l6⟩ := good_of hv hg
    have pa : 2 ^ a ||| 2 ^ c < 256 := or_lt8 (pw_lt8 (by omega)) (pw_lt8 (by omega))
    have ht3 : t < 256 := by omega
    have hz := sd_lt8 (v.1 4) ht3
    rw [if_neg (show ¬ b2i true = nI 0 by decide), if_neg (show ¬ b2i true = nI 0 by decide), bit_c (by omega), bd_s, bit_c (by omega), bd_s, nI_or, ht.1.2.1, within_c _ pa, bd_s, ht.1.2.2.2.2.1, within_c _ ht3, bd_s, hM.2.1, has_m (by omega) (by omega), bd_s, has_m (by omega) (by omega), bd_s, hM.2.2.2.2.1, nI_andn _ ht3]
    have hpp : decide (sd (2 ^ a ||| 2 ^ c) (v.1 1) = 0) = ((v.1 1).testBit a && (v.1 1).testBit c) := by
      have := pp_in (v := (fun _ => 0, fun i _ => if i = 0 then a else c)) (q := 0) (al := v.1 1) pa
      exact this
    rw [hpp]
    cases g1 : (v.1 1).testBit a
    · exact ⟨(-2 : Int32), X, o, rfl, rfl, h⟩
    · cases g2 : (v.1 1).testBit c
      · exact ⟨(-2 : Int32), X, o, rfl, rfl, h⟩
      · rw [Bool.true_and, if_neg (show ¬ b2i true = nI 0 by decide), if_neg (show ¬ b2i true = nI 0 by decide), if_neg (show ¬ b2i true = nI 0 by decide)]
        by_cases g3 : sd t (v.1 4) = 0
        · rw [decide_eq_true g3, if_neg (show ¬ b2i true = nI 0 by decide), g3, if_pos rfl, ht.1.2.2.2.1, hM.2.2.2.1]
          by_cases g4 : v.1 3 < 8
          · rw [if_pos (by rw [l_8, nI_ltI (by omega) (by omega)]; exact g4), if_neg (by rw [l_8, nI_eq (by omega) (by omega)]; omega)]
            obtain ⟨T', o1, pn', K', S', D', n1, n2, n3, n4, n5⟩ := note_both hp ht.1 hM hv ht.2.2.2
            have m1 : MB o1 0 0 v := MB.eqs (fun j a b => n5 j (by omega)) ht.2.1
            obtain ⟨U, u1, u2⟩ := addKnot_c ht.1 hv g4 l1 l2 hg
            obtain ⟨o2, w1, w2, w3⟩ := addKnot_m (a := a) (c := c) (t := t) (d := d) (k := k) m1 (by omega) hv g4
            rw [n1, bd_s, nm_s, n2, bd_s, w1, bd_s, nm_s]
            have ew : f_X4_empty (sX X 7 T' 9) = some (sF (X 9) 1 (nI 0)) := by rw [sX_ne (by omega)]; rfl
            rw [ew, bd_s, nm_s, sX_ne (by omega), sX_ne (by omega), u1, bd_s, nm_s]
            have w3' : FB 0 (sF o1 16 (nI 0)) (sF o2 16 (nI 0)) := ⟨by
              funext i
              rw [sF1, sF1, w3.1], w3.2⟩
            refine ⟨nI (v.1 3), sX (sX (sX X 7 T') 9 (sF (X 9) 1 (nI 0))) 2 U, sF o2 16 (nI 0), ?_, ?_, vK v a c t d k, hr.next (o1 := sF o1 16 (nI 0)) (fun i e1 e2 => ?_) (fun i e1 => n5 i e1) w3' rfl rfl rfl (fun j e1 e2 e3 => ?_) ?_ ⟨0, fun _ => 0, ?_⟩ ⟨pn', K', S', D', ?_⟩⟩
            · rw [sX_eq, u2.2.2.2.1]
              show some (nI (v.1 3 + 1) - (1 : Int32), _) = _
              rw [l_1, pk_sub (by omega)]; rfl
            · show some (o2.2 5 0 - (1 : Int32), _) = _
              rw [w2.2.2.2.1]
              show some (nI (v.1 3 + 1) - (1 : Int32), _) = _
              rw [l_1, pk_sub (by omega)]; rfl
            · rw [sF1, if_neg e2, n4 i e1]
            · rw [sX_ne e1, sX_ne e3, sX_ne e2]
            · rw [sX_eq]
              exact ⟨u2, w2, vK_ok hv g4 l1 l2 l3 l4 l5 l6, by show 1 ≤ v.1 3 + 1; omega⟩
            · rw [sX_ne (by omega), sX_eq]; exact rw_empty
            · rw [sX_ne (by omega), sX_ne (by omega), sX_eq]
              have e1 : (sF o2 16 (nI 0)).1 14 = o1.1 14 := by rw [sF1, if_neg (by omega), w3.1]
              have e2 : (sF o2 16 (nI 0)).2 15 = o1.2 15 := funext (fun j => w3.2 15 j (by unfold tcb; omega))
              rw [e1, e2]
              obtain ⟨b0, b1, b2, b3, b4⟩ := n3
              refine ⟨b0, b1, b2, fun i hi => ?_, b4⟩
              have ei := b3 i hi
              exact ⟨ei.1, ei.2.1, ei.2.2.1, (by show K' i ≤ v.1 3 + 1; have := ei.2.2.2.1; omega), ei.2.2.2.2⟩
          · have : v.1 3 = 8 := by omega
            rw [this, if_neg (show ¬ nI 8 < (8 : Int32) by decide), if_pos (show nI 8 = (8 : Int32) from rfl)]
            exact ⟨(-3 : Int32), X, o, rfl, rfl, h⟩
        · rw [decide_eq_false g3, if_pos (show b2i false = nI 0 from rfl), if_neg (by rw [nI_eq (by omega) (by omega)]; exact g3)]
          exact ⟨(-2 : Int32), X, o, rfl, rfl, h⟩
