/-! ===== the past noted (own text) ===== -/
theorem note1_c {T U : Ob} {a : Int32} {b : Nat → Int32} {v : TV} {pn : Nat} {K S D : Nat → Nat} (h : RP T a b (v.1 3) pn K S D) (hp : pn < 8) (hU : TC U v) : J_X1_note_13 T U = some (sF (sA (sA (sA T 0 pn (nI (v.1 3))) 1 pn (nI (v.1 4))) 2 pn (nI (v.1 5))) 3 (nI (pn + 1))) := by
  unfold J_X1_note_13
  have e := h.2.1
  rw [hU.2.2.2.1, hU.2.2.2.2.1, hU.2.2.2.2.2.1]
  simp (disch := omega) only [bd_s, nm_s, sA1, e, cl_nI, ck_nI, gd_d, l_1, nI_add]
theorem note1_m {o : Ob} {v : TV} {pn : Nat} (h : o.1 14 = nI pn) (hp : pn < 8) (hM : M0 o v) : J_X8_note_47 o = some (sF (sA (sA (sA o 15 (3 * pn) (nI (v.1 3))) 15 (3 * pn + 1) (nI (v.1 4))) 15 (3 * pn + 2) (nI (v.1 5))) 14 (nI (pn + 1))) := by
  unfold J_X8_note_47
  rw [hM.2.2.2.1]
  have e1 : ∀ x, (sA o 15 (3 * pn) x).2 11 0 = nI (v.1 4) := fun x => hM.2.2.2.2.1
  have e2 : ∀ x y, (sA (sA o 15 (3 * pn) x) 15 (3 * pn + 1) y).2 12 0 = nI (v.1 5) := fun x y => hM.2.2.2.2.2.1
  simp (disch := omega) only [bd_s, nm_s, sA1, h, cl_nI, ck_nI, gd_d, l_3, l_2, l_1, pk_mul, nI_add, e1, e2]
theorem note1_rp {T o : Ob} {v : TV} {pn : Nat} {K S D : Nat → Nat} (h : RP T (o.1 14) (o.2 15) (v.1 3) pn K S D) (hp : pn < 8) (hv : TOK v) (h1 : 1 ≤ v.1 3) : RP (sF (sA (sA (sA T 0 pn (nI (v.1 3))) 1 pn (nI (v.1 4))) 2 pn (nI (v.1 5))) 3 (nI (pn + 1))) ((sF (sA (sA (sA o 15 (3 * pn) (nI (v.1 3))) 15 (3 * pn + 1) (nI (v.1 4))) 15 (3 * pn + 2) (nI (v.1 5))) 14 (nI (pn + 1))).1 14) ((sF (sA (sA (sA o 15 (3 * pn) (nI (v.1 3))) 15 (3 * pn + 1) (nI (v.1 4))) 15 (3 * pn + 2) (nI (v.1 5))) 14 (nI (pn + 1))).2 15) (v.1 3) (pn + 1) (fun i => if i = pn then v.1 3 else K i) (fun i => if i = pn then v.1 4 else S i) (fun i => if i = pn then v.1 5 else D i) := by
  obtain ⟨a0, a1, a2, a3, a4⟩ := h
  refine ⟨by omega, rfl, rfl, fun i hi => ?_, fun i j hij hj => ?_⟩
  · simp only [sF2]
    by_cases q : i = pn
    · subst q
      refine ⟨⟨?_, ?_, ?_⟩, ⟨?_, ?_, ?_⟩, ?_, ?_, ?_, ?_⟩
      · simp [sA2]
      · simp [sA2]
      · simp [sA2]
      · rw [sA2, if_neg (by omega), sA2, if_neg (by omega), sA2, if_pos ⟨rfl, rfl⟩, if_pos rfl]
      · rw [sA2, if_neg (by omega), sA2, if_pos ⟨rfl, rfl⟩, if_pos rfl]
      · rw [sA2, if_pos ⟨rfl, rfl⟩, if_pos rfl]
      · rw [if_pos rfl]; exact h1
      · rw [if_pos rfl]; exact Nat.le_refl _
      · rw [if_pos rfl, if_pos rfl]; exact hv.2.2.2.2.1
      · rw [if_pos rfl]; exact hv.2.2.2.2.2.1
    · have e := a3 i (by omega)
      simp only [if_neg q]
      refine ⟨⟨?_, ?_, ?_⟩, ⟨?_, ?_, ?_⟩, e.2.2⟩
      · simp [sA2, q]; exact e.1.1
      · simp [sA2, q]; exact e.1.2.1
      · simp [sA2, q]; exact e.1.2.2
      · rw [sA2, if_neg (by omega), sA2, if_neg (by omega), sA2, if_neg (by omega)]; exact e.2.1.1
      · rw [sA2, if_neg (by omega), sA2, if_neg (by omega), sA2, if_neg (by omega)]; exact e.2.1.2.1
      · rw [sA2, if_neg (by omega), sA2, if_neg (by omega), sA2, if_neg (by omega)]; exact e.2.1.2.2
  · show (if i = pn then v.1 3 else K i) ≤ (if j = pn then v.1 3 else K j)
    by_cases q : j = pn
    · rw [if_pos q]
      split
      · exact Nat.le_refl _
      · exact (a3 i (by omega)).2.2.2.1
    · rw [if_neg q, if_neg (by omega)]
      exact a4 i j hij (by omega)
theorem shift_c (T : Ob) : ∃ T', f_X1_forgetOldest T = some T' ∧ T'.1 3 = nI 7 ∧ ∀ k, k < 3 → ∀ i, i < 7 → T'.2 k i = T.2 k (i + 1) := by
  have key := loop_ex (fun n (x : Int32 × Ob) => L_X1_forgetOldest_2 n x.1 x.2) (fun j x => 1 ≤ j ∧ x.1 = nI j ∧ ∀ k, k < 3 → ∀ i, x.2.2 k i = if i + 1 < j then T.2 k (i + 1) else T.2 k i) (fun o' => ∀ k, k < 3 → ∀ i, o'.2 k i = if i + 1 < 8 then T.2 k (i + 1) else T.2 k i) 8
    (by
      rintro n j ⟨x, o1⟩ hj ⟨h1, hx, h3⟩
      have hx : x = nI j := hx
      subst hx
      have h3 : ∀ k, k < 3 → ∀ i, o1.2 k i = if i + 1 < j then T.2 k (i + 1) else T.2 k i := h3
      have s0 := h3 0 (by omega) j
      have s1 := h3 1 (by omega) j
      have s2 := h3 2 (by omega) j
      rw [if_neg (by omega)] at s0 s1 s2
      refine ⟨(nI (j + 1), sA (sA (sA o1 0 (j - 1) (T.2 0 j)) 1 (j - 1) (T.2 1 j)) 2 (j - 1) (T.2 2 j)), ?_, by omega, rfl, fun k hk i => ?_⟩
      · show L_X1_forgetOldest_2_step (L_X1_forgetOldest_2 n) _ _ = L_X1_forgetOldest_2 n _ _
        unfold L_X1_forgetOldest_2_step
        simp (disch := omega) only [bd_s, nm_s, l_0, l_1, l_2, l_3, l_4, l_5, l_6, l_7, l_8, l_9, l_10, l_16, l_20, l_32, l_44, l_48, l_57, l_59, l_60, l_99, l_100, l_107, l_108, l_112, l_255, l_256, l_300, l_9999, le_nI, lt_nI, eq_nI, cl_nI, ck_nI, gd_d, b2i_z, b2i_o, has_c, has_m, bit_c, within_c, nI_add, if_pos, if_neg, nI_or, nI_and, sh1_nI, pk_sub, gd_ckz, s0]
        rw [show (sA o1 0 (j - 1) (T.2 0 j)).2 1 j = T.2 1 j from s1, show (sA (sA o1 0 (j - 1) (T.2 0 j)) 1 (j - 1) (T.2 1 j)).2 2 j = T.2 2 j from s2]
      · show (sA (sA (sA o1 0 (j - 1) (T.2 0 j)) 1 (j - 1) (T.2 1 j)) 2 (j - 1) (T.2 2 j)).2 k i = _
        have hk3 : k = 0 ∨ k = 1 ∨ k = 2 := by omega
        by_cases q : i = j - 1
        · have e : i + 1 = j := by omega
          rw [if_pos (by omega), e]
          rcases hk3 with rfl | rfl | rfl <;> simp [sA2, q]
        · have := h3 k hk i
          have e : (sA (sA (sA o1 0 (j - 1) (T.2 0 j)) 1 (j - 1) (T.2 1 j)) 2 (j - 1) (T.2 2 j)).2 k i = o1.2 k i := by
            rw [sA2, if_neg (fun e => q e.2), sA2, if_neg (fun e => q e.2), sA2, if_neg (fun e => q e.2)]
          rw [e, this]
          by_cases q2 : i + 1 < j
          · rw [if_pos q2, if_pos (by omega)]
          · rw [if_neg q2, if_neg (by omega)])
    (by
      rintro n ⟨x, o1⟩ ⟨h1, hx, h3⟩
      have hx : x = nI 8 := hx
      subst hx
      refine ⟨o1, ?_, h3⟩
      show L_X1_forgetOldest_2_step (L_X1_forgetOldest_2 n) _ _ = _
      unfold L_X1_forgetOldest_2_step
      simp (disch := omega) only [bd_s, nm_s, l_0, l_1, l_2, l_3, l_4, l_5, l_6, l_7, l_8, l_9, l_10, l_16, l_20, l_32, l_44, l_48, l_57, l_59, l_60, l_99, l_100, l_107, l_108, l_112, l_255, l_256, l_300, l_9999, le_nI, lt_nI, eq_nI, cl_nI, ck_nI, gd_d, b2i_z, b2i_o, has_c, has_m, bit_c, within_c, nI_add, if_pos, if_neg, nI_or, nI_and, sh1_nI, pk_sub, gd_ckz]) 7 1 (nI 1, T) 512 rfl (by omega) ⟨by omega, rfl, fun k hk i => by show T.2 k i = _; rw [if_neg (by omega)]⟩
  obtain ⟨o', k1, k2⟩ := key
  have k1 : L_X1_forgetOldest_2 512 (1 : Int32) T = some o' := k1
  refine ⟨sF o' 3 (nI 7), ?_, rfl, fun k hk i hi => ?_⟩
  · unfold f_X1_forgetOldest
    rw [k1]; rfl
  · show o'.2 k i = _
    rw [k2 k hk i, if_pos (by omega)]
theorem shift_m (o : Ob) : ∃ o', L_X8_note_11 512 (0 : Int32) o = some o' ∧ o'.1 = o.1 ∧ (∀ i, i ≠ 15 → o'.2 i = o.2 i) ∧ ∀ i, i < 21 → o'.2 15 i = o.2 15 (i + 3) := by
  have key := loop_ex (fun n (x : Int32 × Ob) => L_X8_note_11 n x.1 x.2) (fun j x => x.1 = nI j ∧ x.2.1 = o.1 ∧ (∀ i, i ≠ 15 → x.2.2 i = o.2 i) ∧ ∀ i, x.2.2 15 i = if i < j then o.2 15 (i + 3) else o.2 15 i) (fun o' => o'.1 = o.1 ∧ (∀ i, i ≠ 15 → o'.2 i = o.2 i) ∧ ∀ i, o'.2 15 i = if i < 21 then o.2 15 (i + 3) else o.2 15 i) 21
    (by
      rintro n j ⟨x, o1⟩ hj ⟨hx, h1, h2, h3⟩
      have hx : x = nI j := hx
      subst hx
      have h3 : ∀ i, o1.2 15 i = if i < j then o.2 15 (i + 3) else o.2 15 i := h3
      have s := h3 (j + 3)
      rw [if_neg (by omega)] at s
      refine ⟨(nI (j + 1), sA o1 15 j (o.2 15 (j + 3))), ?_, rfl, h1, fun i hi => ?_, fun i => ?_⟩
      · show L_X8_note_11_step (L_X8_note_11 n) _ _ = L_X8_note_11 n _ _
        unfold L_X8_note_11_step
        rw [if_neg (by rw [show (21 : Int32) = nI 21 from rfl, nI_leI (by omega) (by omega)]; omega), l_3, nI_add, ck_nI (by omega), gd_d (by omega), ck_nI (by omega), gd_d (by omega), cl_nI (by omega), cl_nI (by omega), nm_s, nm_s, l_1, nI_add, s]
      · show (if i = 15 then _ else o1.2 i) = _
        rw [if_neg hi]; exact h2 i hi
      · show (sA o1 15 j (o.2 15 (j + 3))).2 15 i = _
        rw [tbl_upd]
        by_cases q : i = j
        · rw [if_pos q, if_pos (by omega), q]
        · rw [if_neg q, h3 i]
          by_cases q2 : i < j
          · rw [if_pos q2, if_pos (by omega)]
          · rw [if_neg q2, if_neg (by omega)])
    (by
      rintro n ⟨x, o1⟩ ⟨hx, h1, h2, h3⟩
      have hx : x = nI 21 := hx
      subst hx
      refine ⟨o1, ?_, h1, h2, h3⟩
      show L_X8_note_11_step (L_X8_note_11 n) _ _ = _
      unfold L_X8_note_11_step
      rw [if_pos (show (21 : Int32) ≤ nI 21 by decide)]) 21 0 (nI 0, o) 512 rfl (by omega) ⟨rfl, rfl, fun _ _ => rfl, fun i => by show o.2 15 i = _; rw [if_neg (by omega)]⟩
  obtain ⟨o', k1, k2, k3, k4⟩ := key
  exact ⟨o', k1, k2, k3, fun i hi => by rw [k4 i, if_pos hi]⟩
theorem note_both {T U o : Ob} {v : TV} {pn : Nat} {K S D : Nat → Nat} (h : RP T (o.1 14) (o.2 15) (v.1 3) pn K S D) (hU : TC U v) (hM : M0 o v) (hv : TOK v) (h1 : 1 ≤ v.1 3) : ∃ T' o' pn' K' S' D', f_X1_note T U = some T' ∧ f_X8_note o = some o' ∧ RP T' (o'.1 14) (o'.2 15) (v.1 3) pn' K' S' D' ∧ (∀ i, i ≠ 14 → o'.1 i = o.1 i) ∧ ∀ i, i ≠ 15 → o'.2 i = o.2 i := by
  have a0 := h.1
  unfold f_X1_note f_X8_note
  rw [h.2.1, h.2.2.1]
  by_cases q : pn < 8
  · rw [if_pos (by rw [l_8, nI_ltI (by omega) (by omega)]; exact q), if_neg (by rw [l_8, nI_eq (by omega) (by omega)]; omega), note1_c h q hU, note1_m h.2.2.1 q hM]
    refine ⟨_, _, _, _, _, _, rfl, rfl, note1_rp h q hv h1, fun i hi => ?_, fun i hi => ?_⟩
    · rw [sF1, if_neg hi]; rfl
    · show (if i = 15 then _ else if i = 15 then _ else if i = 15 then _ else o.2 i) = _
      rw [if_neg hi, if_neg hi, if_neg hi]
  · have q8 : pn = 8 := by omega
    subst q8
    obtain ⟨T1, c1, c2, c3⟩ := shift_c T
    obtain ⟨o1, m1, m2, m3, m4⟩ := shift_m o
    have hR : RP T1 ((sF o1 14 (nI 7)).1 14) ((sF o1 14 (nI 7)).2 15) (v.1 3) 7 (fun i => K (i + 1)) (fun i => S (i + 1)) (fun i => D (i + 1)) := by
      obtain ⟨-, -, -, a3, a4⟩ := h
      refine ⟨by omega, c2, rfl, fun i hi => ?_, fun i j hij hj => a4 (i + 1) (j + 1) (by omega) (by omega)⟩
      have e := a3 (i + 1) (by omega)
      simp only [sF2]
      rw [c3 0 (by omega) i (by omega), c3 1 (by omega) i (by omega), c3 2 (by omega) i (by omega), m4 (3 * i) (by omega), m4 (3 * i + 1) (by omega), m4 (3 * i + 2) (by omega)]
      rw [show 3 * i + 3 = 3 * (i + 1) by omega, show 3 * i + 1 + 3 = 3 * (i + 1) + 1 by omega, show 3 * i + 2 + 3 = 3 * (i + 1) + 2 by omega]
      exact e
    have hM1 : M0 (sF o1 14 (nI 7)) v := MB.zero.mp (MB.eqs (o := o) (fun j a b => m3 j (by omega)) (MB.zero.mpr hM))
    rw [if_neg (show ¬ nI 8 < (8 : Int32) by decide), if_pos (show nI 8 = (8 : Int32) from rfl), c1, bd_s, m1, bd_s, m2, h.2.2.1, l_1, pk_sub (by omega), nm_s, note1_c hR (by omega) hU, note1_m (o := sF o1 14 (nI 7)) rfl (by omega) hM1]
    refine ⟨_, _, _, _, _, _, rfl, rfl, note1_rp hR (by omega) hv h1, fun i hi => ?_, fun i hi => ?_⟩
    · rw [sF1, if_neg hi]
      show (if i = 14 then _ else o1.1 i) = _
      rw [if_neg hi, m2]
    · show (if i = 15 then _ else if i = 15 then _ else if i = 15 then _ else o1.2 i) = _
      rw [if_neg hi, if_neg hi, if_neg hi]; exact m3 i hi
