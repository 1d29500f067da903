/-! ===== item by item (own text) ===== -/
theorem MB.eq {o o' : Ob} {s b : Nat} {v : TV} (h : ∀ j, j < 21 → o'.2 j = o.2 j) (hm : MB o s b v) : MB o' s b v := by
  unfold MB at hm ⊢
  rw [h 2 (by omega), h 3 (by omega), h 4 (by omega), h 5 (by omega), h 11 (by omega), h 12 (by omega), h 6 (by omega), h 7 (by omega), h 8 (by omega), h 9 (by omega), h 10 (by omega)]
  exact hm
theorem tk0 {β : Type} (T3 : Ob) (K : Int32 × Ob → Option β) : bd (bd (some ((0 : Int32), T3)) (fun z1 => gd (ckz z1.1) (some (z1.1, z1.2)))) K = K ((0 : Int32), T3) := by
  rw [bd_s]
  show bd (gd (ckz (0 : Int32)) (some ((0 : Int32), T3))) K = _
  rw [show ckz (0 : Int32) = true from by decide]
  rfl
theorem tk1 {β : Type} (T3 : Ob) (K : Int32 × Ob → Option β) : bd (bd (some ((1 : Int32), T3)) (fun z1 => gd (ckz z1.1) (some (z1.1, z1.2)))) K = K ((1 : Int32), T3) := by
  rw [bd_s]
  show bd (gd (ckz (1 : Int32)) (some ((1 : Int32), T3))) K = _
  rw [show ckz (1 : Int32) = true from by decide]
  rfl
theorem item_both {T T3 o : Ob} {n p c : Nat} {B : Nat → Nat} {w : TV} (ht : TX T o n B) (hp : p < n) (hc : c < 300) (hT : TC T3 w) (hM : MB o 1 1 w) (hw : TOK w) (ho : o.1 20 = nI p) (o0 : Ob) (self : Int32 → Int32 → Ob → Ob → Option (Nat × Int32 × Ob × Ob)) :
    (∃ o0' T3' o', L_X2_read_9_step T self (nI p) (nI c) o0 T3 = some (0, nI p, o0', T3') ∧ f_X8_item o = some ((0 : Int32), o') ∧ Fr o o') ∨
    (∃ (q : Nat) (w' : TV) (o0' T3' o' : Ob), L_X2_read_9_step T self (nI p) (nI c) o0 T3 = self (nI q) (nI (c + 1)) o0' T3' ∧ f_X8_item o = some ((1 : Int32), o') ∧ Fr o o' ∧ o'.1 20 = nI q ∧ p < q ∧ q ≤ n ∧ TC T3' w' ∧ MB o' 1 1 w' ∧ TOK w') := by
  have hn := ht.1
  have hb := byt_lt ht p
  have ht2 : TX T (sF o 20 (nI (p + 1))) n B := Fr.sF.tx ht
  have fr2 : Fr o (sF o 20 (nI (p + 1))) := Fr.sF
  -- class: what a step is, once the numbers are read
  have stc : L_X2_read_9_step T self (nI p) (nI c) o0 T3 = bd (f_X2_numbersOf (nI (byt n B p))) (fun z3 => bd (f_X2_readNumbers o0 T (nI (p + 1)) z3) (fun z4 => nm (z4.1) (fun v5 => if v5 = (-4 : Int32) then some (0, nI p, z4.2, T3) else bd (f_X2_takeItem z4.2 T3 (nI (byt n B p))) (fun z6 => if z6.1 = (0 : Int32) then some (0, nI p, z4.2, z6.2) else self v5 (nI (c + 1)) z4.2 z6.2)))) := by
    unfold L_X2_read_9_step
    rw [if_neg (by rw [l_300, nI_leI (by omega) (by omega)]; omega), show f_X5_size T = some (nI n) from by unfold f_X5_size; rw [ht.2.1], bd_s, if_neg (by rw [nI_leI (by omega) (by omega)]; omega), at5_c ht (by omega), bd_s, if_pos hp, l_1, nI_add]
    simp only [nm_s, l_1, nI_add]
  have stm : f_X8_item o = (fun s2 : Ob => if nI (byt n B p) = (107 : Int32) then bd (f_X8_figures s2 (5 : Int32)) (fun z4 => if z4.1 = (0 : Int32) then some ((0 : Int32), z4.2) else if z4.2.2 5 1 = (8 : Int32) then some ((0 : Int32), z4.2) else bd (f_X8_isKnot z4.2 (1 : Int32) (z4.2.2 21 0) (z4.2.2 21 1) (z4.2.2 21 2) (z4.2.2 21 3) (z4.2.2 21 4)) (fun z5 => if z5 = (0 : Int32) then some ((0 : Int32), z4.2) else bd (f_X8_addKnot z4.2 (1 : Int32) (z4.2.2 21 0) (z4.2.2 21 1) (z4.2.2 21 2) (z4.2.2 21 3) (z4.2.2 21 4)) (fun z6 => some ((1 : Int32), z6)))) else if nI (byt n B p) = (108 : Int32) then bd (f_X8_figures s2 (1 : Int32)) (fun z8 => if z8.1 = (0 : Int32) then some ((0 : Int32), z8.2) else if z8.2.2 21 0 ≤ (2 : Int32) then nm (sA z8.2 4 1 (z8.2.2 21 0)) (fun s9 => some ((1 : Int32), s9)) else some ((0 : Int32), z8.2)) else if nI (byt n B p) = (112 : Int32) then bd (f_X8_figures s2 (1 : Int32)) (fun z11 => if z11.1 = (0 : Int32) then some ((0 : Int32), z11.2) else if z11.2.2 2 1 = (6 : Int32) then some ((0 : Int32), z11.2) else if z11.2.2 21 0 ≤ (1 : Int32) then nm (sA z11.2 3 1 ((z11.2.2 3 1) ||| ((z11.2.2 21 0) <<< ((z11.2.2 2 1) &&& 31)))) (fun s12 => nm (sA s12 2 1 ((s12.2 2 1) + (1 : Int32))) (fun s13 => some ((1 : Int32), s13))) else some ((0 : Int32), z11.2)) else some ((0 : Int32), s2)) (sF o 20 (nI (p + 1))) := by
    unfold f_X8_item
    rw [ho, byte_m ht (by omega), bd_s, l_1, nI_add, nm_s]
  have hn4 : ∀ q, q < 1000 → ¬ nI q = (-4 : Int32) := fun q hq => nIn4 (by omega)
  rw [stc, stm]
  clear stc stm
  by_cases k1 : byt n B p = 107
  · rw [k1]
    rw [show f_X2_numbersOf (nI 107) = some (nI 5) from by decide, bd_s]
    simp only [if_pos (show nI 107 = (107 : Int32) from rfl)]
    rcases nums2 (k := 5) (by omega) (by omega) (show p + 1 < 400 by omega) o0 (sF o 20 (nI (p + 1))) ht2 rfl with ⟨o0', o', u1, u2, u3⟩ | ⟨q, x, o0', o', u1, u2, u3, u4, u5, u6, u7, u8⟩
    · left
      rw [u1, show (5 : Int32) = nI 5 from rfl, u2]
      exact ⟨o0', T3, o', rfl, rfl, fr2.tr u3⟩
    · have hM' : MB o' 1 1 w := (MB.eq (o := sF o 20 (nI (p + 1))) u4 hM)
      have x0 := u8 0 (by omega)
      have x1 := u8 1 (by omega)
      have x2 := u8 2 (by omega)
      have x3 := u8 3 (by omega)
      have x4 := u8 4 (by omega)
      have tk : f_X2_takeItem o0' T3 (nI 107) = bd (f_X6_addKnot T3 (nI (x 0)) (nI (x 1)) (nI (x 2)) (nI (x 3)) (nI (x 4))) (fun z1 => gd (ckz z1.1) (some (z1.1, z1.2))) := by
        unfold f_X2_takeItem
        rw [if_neg (by decide), if_neg (by decide), x0.1, x1.1, x2.1, x3.1, x4.1]
      rw [u1, show (5 : Int32) = nI 5 from rfl, u2]
      simp only [bd_s, nm_s]
      rw [if_neg (hn4 q (by omega)), tk, x0.2.1, x1.2.1, x2.2.1, x3.2.1, x4.2.1, if_neg (show ¬ (1 : Int32) = 0 by decide), hM'.2.2.2.1]
      have h8 := hw.2.2.2.1
      by_cases q8 : w.1 3 = 8
      · left
        rw [q8, if_pos (show nI 8 = (8 : Int32) from rfl)]
        refine ⟨o0', T3, o', ?_, rfl, fr2.tr u3⟩
        unfold f_X6_addKnot
        rw [hT.2.2.2.1, q8, if_pos (show (8 : Int32) ≤ nI 8 by decide)]
        exact (tk0 _ _).trans (if_pos rfl)
      · rw [if_neg (by rw [l_8, nI_eq (by omega) (by omega)]; exact q8), show (1 : Int32) = nI 1 from rfl, isKnot_m hM' (by omega) hw, bd_s]
        cases hg : good w (nI (x 0)) (nI (x 1)) (nI (x 2)) (nI (x 3)) (nI (x 4))
        · left
          rw [if_pos (show b2i false = (0 : Int32) from rfl)]
          refine ⟨o0', T3, o', ?_, rfl, fr2.tr u3⟩
          unfold f_X6_addKnot
          rw [hT.2.2.2.1, if_neg (by rw [l_8, nI_leI (by omega) (by omega)]; omega), suits_c hT hw, hg, bd_s, if_pos (show b2i false = (0 : Int32) from rfl)]
          exact (tk0 _ _).trans (if_pos rfl)
        · right
          rw [if_neg (show ¬ b2i true = (0 : Int32) by decide)]
          have hgo := good_of hw hg
          obtain ⟨a, c', t, d, k, e1, e2, e3, e4, e5, l1, l2, l3, l4, l5, l6⟩ := hgo
          have y0 := (nI_eq (by omega) (by have := hw.1; omega)).mp e1
          have y1 := (nI_eq (by omega) (by have := hw.1; omega)).mp e2
          have y2 := (nI_eq (by omega) (by have hpw : 2 ^ w.1 3 ≤ 2 ^ 8 := Nat.pow_le_pow_right (n := 2) (by omega) h8; omega)).mp e3
          have y3 := (nI_eq (by omega) (by omega)).mp e4
          have y4 := (nI_eq (by omega) (by omega)).mp e5
          rw [y0, y1, y2, y3, y4] at hg ⊢
          obtain ⟨T3', t1, t2⟩ := addKnot_c hT hw (by omega) l1 l2 hg
          obtain ⟨o2, m1, m2, m3⟩ := addKnot_m (a := a) (c := c') (t := t) (d := d) (k := k) hM' (by omega) hw (by omega)
          rw [t1, m1]
          refine ⟨q, vK w a c' t d k, o0', T3', o2, (tk1 _ _).trans (if_neg (show ¬ (1 : Int32) = 0 by decide)), rfl, (fr2.tr u3).tr m3.fr, ?_, by omega, u7, t2, m2, vK_ok hw (by omega) l1 l2 l3 l4 l5 l6⟩
          rw [m3.1]; exact u5
  · by_cases k2 : byt n B p = 108
    · rw [k2]
      rw [show f_X2_numbersOf (nI 108) = some (nI 1) from by decide, bd_s]
      simp only [if_neg (show ¬ nI 108 = (107 : Int32) by decide), if_pos (show nI 108 = (108 : Int32) from rfl)]
      rcases nums2 (k := 1) (by omega) (by omega) (show p + 1 < 400 by omega) o0 (sF o 20 (nI (p + 1))) ht2 rfl with ⟨o0', o', u1, u2, u3⟩ | ⟨q, x, o0', o', u1, u2, u3, u4, u5, u6, u7, u8⟩
      · left
        rw [u1, show (1 : Int32) = nI 1 from rfl, u2]
        exact ⟨o0', T3, o', rfl, rfl, fr2.tr u3⟩
      · have hM' : MB o' 1 1 w := (MB.eq (o := sF o 20 (nI (p + 1))) u4 hM)
        have x0 := u8 0 (by omega)
        have tk : f_X2_takeItem o0' T3 (nI 108) = bd (f_X6_setLaw T3 (nI (x 0))) (fun z1 => gd (ckz z1.1) (some (z1.1, z1.2))) := by
          unfold f_X2_takeItem
          rw [if_neg (by decide), if_pos (show nI 108 = (108 : Int32) from rfl), x0.1]
        have hl := setLaw_c hT x0.2.2
        rw [u1, show f_X8_figures (sF o 20 (nI (p + 1))) (1 : Int32) = some ((1 : Int32), o') from u2]
        simp only [bd_s, nm_s]
        rw [if_neg (hn4 q (by omega)), tk, x0.2.1, if_neg (show ¬ (1 : Int32) = 0 by decide)]
        by_cases qx : x 0 ≤ 2
        · right
          obtain ⟨T3', t1, t2⟩ := hl.1 qx
          rw [t1, if_pos (show nI (x 0) ≤ (2 : Int32) from nI_le (b := 2) qx (by omega))]
          refine ⟨q, vL w (x 0), o0', T3', sA o' 4 1 (nI (x 0)), (tk1 _ _).trans (if_neg (show ¬ (1 : Int32) = 0 by decide)), rfl, (fr2.tr u3).tr (Fr.sA (Or.inr (by unfold tch; omega))), u5, by omega, u7, t2, ?_, vL_ok hw qx⟩
          obtain ⟨c0, c1, c2, c3, c4, c5, c6⟩ := hM'
          refine ⟨c0, c1, ?_, c3, c4, c5, c6⟩
          rw [sA2, if_pos ⟨rfl, rfl⟩]; rfl
        · left
          rw [hl.2 qx, if_neg (show ¬ nI (x 0) ≤ (2 : Int32) from by rw [l_2, nI_leI (by omega) (by omega)]; exact qx)]
          exact ⟨o0', T3, o', (tk0 _ _).trans (if_pos rfl), rfl, fr2.tr u3⟩
    · by_cases k3 : byt n B p = 112
      · rw [k3]
        rw [show f_X2_numbersOf (nI 112) = some (nI 1) from by decide, bd_s]
        simp only [if_neg (show ¬ nI 112 = (107 : Int32) by decide), if_neg (show ¬ nI 112 = (108 : Int32) by decide), if_pos (show nI 112 = (112 : Int32) from rfl)]
        rcases nums2 (k := 1) (by omega) (by omega) (show p + 1 < 400 by omega) o0 (sF o 20 (nI (p + 1))) ht2 rfl with ⟨o0', o', u1, u2, u3⟩ | ⟨q, x, o0', o', u1, u2, u3, u4, u5, u6, u7, u8⟩
        · left
          rw [u1, show (1 : Int32) = nI 1 from rfl, u2]
          exact ⟨o0', T3, o', rfl, rfl, fr2.tr u3⟩
        · have hM' : MB o' 1 1 w := (MB.eq (o := sF o 20 (nI (p + 1))) u4 hM)
          have x0 := u8 0 (by omega)
          have h6 := hw.1
          have tk : f_X2_takeItem o0' T3 (nI 112) = bd (f_X6_addPerson T3 (nI (x 0))) (fun z1 => gd (ckz z1.1) (some (z1.1, z1.2))) := by
            unfold f_X2_takeItem
            rw [if_pos (show nI 112 = (112 : Int32) from rfl), x0.1]
          have hl := addPerson_c hT hw x0.2.2
          rw [u1, show f_X8_figures (sF o 20 (nI (p + 1))) (1 : Int32) = some ((1 : Int32), o') from u2]
          simp only [bd_s, nm_s]
          obtain ⟨c0, c1, c2, c3, c4, c5, c6⟩ := hM'
          rw [if_neg (hn4 q (by omega)), tk, x0.2.1, if_neg (show ¬ (1 : Int32) = 0 by decide), c0, c1]
          by_cases q6 : w.1 0 = 6
          · left
            rw [hl.2 (by omega), q6, if_pos (show nI 6 = (6 : Int32) from rfl)]
            exact ⟨o0', T3, o', (tk0 _ _).trans (if_pos rfl), rfl, fr2.tr u3⟩
          · rw [if_neg (by rw [l_6, nI_eq (by omega) (by omega)]; exact q6)]
            by_cases qx : x 0 ≤ 1
            · right
              obtain ⟨T3', t1, t2⟩ := hl.1 ⟨qx, by omega⟩
              have hp : 2 ^ w.1 0 ≤ 2 ^ 6 := Nat.pow_le_pow_right (n := 2) (by omega) h6
              have hm : x 0 * 2 ^ w.1 0 ≤ 1 * 64 := Nat.mul_le_mul qx hp
              rw [t1, if_pos (show nI (x 0) ≤ (1 : Int32) from nI_le (b := 1) qx (by omega)), sh_nI (by omega) (by omega), nI_or]
              refine ⟨q, vP w (x 0), o0', T3', sA (sA o' 3 1 (nI (w.1 1 ||| x 0 * 2 ^ w.1 0))) 2 1 (nI (w.1 0 + 1)), (tk1 _ _).trans (if_neg (show ¬ (1 : Int32) = 0 by decide)), ?_, ((fr2.tr u3).tr (Fr.sA (Or.inr (by unfold tch; omega)))).tr (Fr.sA (Or.inr (by unfold tch; omega))), u5, by omega, u7, t2, ?_, vP_ok hw qx (by omega)⟩
              · rw [show (sA o' 3 1 (nI (w.1 1 ||| x 0 * 2 ^ w.1 0))).2 2 1 = nI (w.1 0) from c0, l_1, nI_add]
              · refine ⟨?_, ?_, c2, c3, c4, c5, c6⟩
                · rw [sA2, if_pos ⟨rfl, rfl⟩]; rfl
                · rw [sA2, if_neg (by omega), sA2, if_pos ⟨rfl, rfl⟩]; rfl
            · left
              rw [hl.2 (by omega), if_neg (show ¬ nI (x 0) ≤ (1 : Int32) from by rw [l_1, nI_leI (by omega) (by omega)]; exact qx)]
              exact ⟨o0', T3, o', (tk0 _ _).trans (if_pos rfl), rfl, fr2.tr u3⟩
      · left
        have e1 : ¬ nI (byt n B p) = (107 : Int32) := by rw [l_107, nI_eq (by omega) (by omega)]; exact k1
        have e2 : ¬ nI (byt n B p) = (108 : Int32) := by rw [l_108, nI_eq (by omega) (by omega)]; exact k2
        have e3 : ¬ nI (byt n B p) = (112 : Int32) := by rw [l_112, nI_eq (by omega) (by omega)]; exact k3
        have e4 : f_X2_numbersOf (nI (byt n B p)) = some (0 : Int32) := by
          unfold f_X2_numbersOf
          rw [if_neg e1, if_neg e3, if_neg e2]
        refine ⟨o0, T3, sF o 20 (nI (p + 1)), ?_, ?_, fr2⟩
        · rw [e4]; rfl
        · simp only [if_neg e1, if_neg e2, if_neg e3]
