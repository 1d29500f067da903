/-! ===== the reference's town as numbers (own text) ===== -/
def M0 (o : Ob) (v : TV) : Prop := o.2 2 0 = nI (v.1 0) ∧ o.2 3 0 = nI (v.1 1) ∧ o.2 4 0 = nI (v.1 2) ∧ o.2 5 0 = nI (v.1 3) ∧ o.2 11 0 = nI (v.1 4) ∧ o.2 12 0 = nI (v.1 5) ∧
  ∀ k, k < v.1 3 → o.2 6 k = nI (v.2 0 k) ∧ o.2 7 k = nI (v.2 1 k) ∧ o.2 8 k = nI (v.2 2 k) ∧ o.2 9 k = nI (v.2 3 k) ∧ o.2 10 k = nI (v.2 4 k)
theorem in_m (x y z : Int64) : f_X8_in x y z = some (b2i (decide (y.toInt ≤ x.toInt) && decide (x.toInt ≤ z.toInt))) := by
  unfold f_X8_in
  have h1 : (lg_cmp x y < (0 : Int32)) = ¬ (y.toInt ≤ x.toInt) := by
    rw [lg_cmp_lt, Int64.lt_iff_toInt_lt, Int.not_le]
  have h2 : ((0 : Int32) < lg_cmp x z) = ¬ (x.toInt ≤ z.toInt) := by
    rw [lg_cmp_gt, Int64.lt_iff_toInt_lt, Int.not_le]
  simp only [h1, h2]
  by_cases q1 : y.toInt ≤ x.toInt <;> by_cases q2 : x.toInt ≤ z.toInt <;> simp [q1, q2] <;> rfl
theorem tl_i (x : Int32) : x.toInt64.toInt = x.toInt := by simp
theorem nm1_i {n : Nat} (h : n < 1000) : (nI n - nI 1).toInt64.toInt = (n : Int) - 1 := by
  rw [tl_i, pk_sub_toInt (by omega) (by omega)]; rfl
theorem inb_d (x : Int32) (n : Nat) : (decide (0 ≤ x.toInt) && decide (x.toInt ≤ (n : Int) - 1)) = inb x n := by
  unfold inb
  have : (x.toInt ≤ (n : Int) - 1) = (x.toInt < n) := by apply propext; omega
  simp only [this]
theorem z64 : (0 : Int64).toInt = 0 := by decide
theorem there_m {o : Ob} {v : TV} (hM : M0 o v) (hv : TOK v) (x : Int32) : f_X8_isThere o x = some (b2i (inb x (v.1 3))) := by
  have h8 := hv.2.2.2.1
  unfold f_X8_isThere
  rw [hM.2.2.2.1, in_m, l_1, nm1_i (by omega), tl_i, z64, inb_d]
  simp only [bd_s, gd_ckz]
theorem person_m {o : Ob} {v : TV} (hM : M0 o v) (hv : TOK v) (x : Int32) : f_X8_isPerson o x = some (b2i (inb x (v.1 0))) := by
  have h8 := hv.1
  unfold f_X8_isPerson
  rw [hM.1, in_m, l_1, nm1_i (by omega), tl_i, z64, inb_d]
  simp only [bd_s, gd_ckz]
theorem nI_or0 (x : Int32) : x ||| nI 0 = x := by
  show x ||| 0 = x
  simp
theorem pp_tb (v : TV) (k i : Nat) : (pp v k).testBit i = (decide (v.2 0 k = i) || decide (v.2 1 k = i)) := by
  unfold pp
  rw [Nat.testBit_or, pw_tb, pw_tb]
theorem ofM_m {o : Ob} {v : TV} (hM : M0 o v) (hv : TOK v) {i s : Nat} (hi : i < 8) (hs : inK v s) : f_X8_knotsOf o (nI i) (nI s) = some (nI (msk (fun j => s.testBit j && (pp v j).testBit i) 8)) := by
  have h8 := hv.2.2.2.1
  have hsl := hs.lt hv
  have key := loop_up (fun n (x : Int32 × Int32) => L_X8_knotsOf_5 (nI i) (nI s) o n x.1 x.2) (fun j (_ : Unit) => (nI (msk (fun j => s.testBit j && (pp v j).testBit i) j), nI j)) (fun _ u => u) (fun _ => nI (msk (fun j => s.testBit j && (pp v j).testBit i) (v.1 3))) (v.1 3) (fun j _ => True)
    (by
      intro n j u hj _
      refine ⟨?_, trivial⟩
      show L_X8_knotsOf_5_step (nI i) (nI s) o (L_X8_knotsOf_5 (nI i) (nI s) o n) _ _ = L_X8_knotsOf_5 (nI i) (nI s) o n _ _
      unfold L_X8_knotsOf_5_step
      have hjj := hM.2.2.2.2.2.2 j hj
      have hok := hv.2.2.2.2.2.2 j hj
      have hnp := hv.1
      rw [hM.2.2.2.1, msk, pp_tb]
      simp (disch := omega) only [bd_s, nm_s, l_0, l_1, l_2, l_3, l_4, l_5, l_6, l_7, l_8, l_9, l_10, l_16, l_20, l_32, l_44, l_48, l_57, l_59, l_60, l_99, l_100, l_107, l_108, l_112, l_255, l_256, l_300, l_9999, le_nI, lt_nI, eq_nI, cl_nI, ck_nI, gd_d, b2i_z, b2i_o, has_c, has_m, bit_c, within_c, nI_add, if_pos, if_neg, nI_or, nI_and, sh1_nI, pk_sub, gd_ckz, hjj.1, hjj.2.1, nI_or0]
      cases q1 : s.testBit j
      · simp
      · by_cases q2 : v.2 0 j = i
        · simp [q2]
        · by_cases q3 : v.2 1 j = i <;> simp [q2, q3])
    (by
      intro n u _
      show L_X8_knotsOf_5_step (nI i) (nI s) o (L_X8_knotsOf_5 (nI i) (nI s) o n) _ _ = _
      unfold L_X8_knotsOf_5_step
      rw [hM.2.2.2.1]
      simp (disch := omega) only [bd_s, nm_s, l_0, l_1, l_2, l_3, l_4, l_5, l_6, l_7, l_8, l_9, l_10, l_16, l_20, l_32, l_44, l_48, l_57, l_59, l_60, l_99, l_100, l_107, l_108, l_112, l_255, l_256, l_300, l_9999, le_nI, lt_nI, eq_nI, cl_nI, ck_nI, gd_d, b2i_z, b2i_o, has_c, has_m, bit_c, within_c, nI_add, if_pos, if_neg, nI_or, nI_and, sh1_nI, pk_sub, gd_ckz]) (v.1 3) 0 () 512 (by omega) (by omega) trivial
  obtain ⟨_, h1, -⟩ := key
  have h2 : L_X8_knotsOf_5 (nI i) (nI s) o 512 (nI 0) (nI 0) = some (nI (msk (fun j => s.testBit j && (pp v j).testBit i) (v.1 3))) := h1
  unfold f_X8_knotsOf
  simp only [bd_s, l_0, h2]
  congr 2
  refine ext8 (msk_8 _ h8) (msk_8 _ (by omega)) (fun j hj => ?_)
  rw [msk_tb, msk_tb]
  cases q : s.testBit j
  · simp
  · have := hs.tb q
    simp [this, hj]
theorem ofM_c {v : TV} (i : Nat) : msk (fun j => (v.1 4).testBit j && (pp v j).testBit i) 8 = ofP v i := rfl
theorem abv_tb {v : TV} {k : Nat} : ∀ (n j : Nat), (abv v k n).testBit j = (decide (j < n) && ((v.1 4).testBit j && decide (¬ (v.2 2 j &&& (abv v k j ||| 2 ^ k) = 0))))
  | 0, j => by simp [abv]
  | n + 1, j => by
    rw [abv, Nat.testBit_or, abv_tb n j]
    by_cases h : j = n
    · subst h
      cases q1 : (v.1 4).testBit j <;> by_cases q2 : v.2 2 j &&& (abv v k j ||| 2 ^ k) = 0 <;> simp [q2, pw_tb]
    · have h1 : decide (j < n + 1) = decide (j < n) := by apply decide_eq_decide.mpr; omega
      rw [h1]
      have h2 : ¬ n = j := fun q => h q.symm
      split <;> simp [pw_tb, h2]
/-- below a number, only the bits below it tell -/
theorem and_low {a x y k : Nat} (ha : a < 2 ^ k) (h : ∀ j, j < k → x.testBit j = y.testBit j) : a &&& x = a &&& y := by
  apply Nat.eq_of_testBit_eq
  intro j
  rw [Nat.testBit_and, Nat.testBit_and]
  by_cases hj : j < k
  · rw [h j hj]
  · rw [Nat.testBit_lt_two_pow (Nat.lt_of_lt_of_le ha (Nat.pow_le_pow_right (n := 2) (by omega) (by omega)))]; simp
theorem abv_low {v : TV} {k n j : Nat} (h : j ≤ n) : ∀ i, i < j → (abv v k n).testBit i = (abv v k j).testBit i := by
  intro i hi
  rw [abv_tb, abv_tb]
  have h1 : i < n := by omega
  simp [hi, h1]
theorem abv_end {v : TV} (hv : TOK v) (k : Nat) : abv v k (v.1 3) = abv v k 8 := by
  have h8 := hv.2.2.2.1
  apply Nat.eq_of_testBit_eq
  intro j
  rw [abv_tb, abv_tb]
  cases q : (v.1 4).testBit j
  · simp
  · have h1 : j < v.1 3 := inK.tb (v := v) hv.2.2.2.2.1 q
    have h2 : j < 8 := by omega
    simp [h1, h2]
theorem above_m {o : Ob} {v : TV} (hM : M0 o v) (hv : TOK v) {k : Nat} (hk : k < 8) : f_X8_above o (nI k) (nI (v.1 4)) = some (nI (abv v k 8)) := by
  have h8 := hv.2.2.2.1
  have htd := hv.td
  have pk := pw_lt8 hk
  have lt (j : Nat) (hj : j ≤ 8) : abv v k j < 256 := Nat.lt_of_lt_of_le (abv_lt v k j) (Nat.pow_le_pow_right (n := 2) (i := j) (j := 8) (by omega) hj)
  -- a pass from the set's own start
  have pass : ∀ x4 : Int32, L_X8_above_17 (nI k) (nI (v.1 4)) x4 o 512 (nI 0) (nI 0) = some (nI (abv v k (v.1 3))) := by
    intro x4
    have key := loop_up (fun n (x : Int32 × Int32) => L_X8_above_17 (nI k) (nI (v.1 4)) x4 o n x.1 x.2) (fun j (_ : Unit) => (nI (abv v k j), nI j)) (fun _ u => u) (fun _ => nI (abv v k (v.1 3))) (v.1 3) (fun j _ => True)
      (by
        intro n j u hj _
        refine ⟨?_, trivial⟩
        show L_X8_above_17_step (nI k) (nI (v.1 4)) x4 o (L_X8_above_17 (nI k) (nI (v.1 4)) x4 o n) _ _ = L_X8_above_17 (nI k) (nI (v.1 4)) x4 o n _ _
        unfold L_X8_above_17_step
        have hjj := hM.2.2.2.2.2.2 j hj
        have e1 := hv.th hj
        have e2 : v.2 2 j &&& (abv v k j ||| 2 ^ k) < 256 := and_lt8 _ e1
        have e3 := lt j (by omega)
        rw [hM.2.2.2.1, abv]
        simp (disch := omega) only [bd_s, nm_s, l_0, l_1, l_2, l_3, l_4, l_5, l_6, l_7, l_8, l_9, l_10, l_16, l_20, l_32, l_44, l_48, l_57, l_59, l_60, l_99, l_100, l_107, l_108, l_112, l_255, l_256, l_300, l_9999, le_nI, lt_nI, eq_nI, cl_nI, ck_nI, gd_d, b2i_z, b2i_o, has_c, has_m, bit_c, within_c, nI_add, if_pos, if_neg, nI_or, nI_and, sh1_nI, pk_sub, gd_ckz, hjj.2.2.1, nI_or0]
        cases q1 : (v.1 4).testBit j
        · simp
        · by_cases q2 : v.2 2 j &&& (abv v k j ||| 2 ^ k) = 0 <;> simp [q2])
      (by
        intro n u _
        show L_X8_above_17_step (nI k) (nI (v.1 4)) x4 o (L_X8_above_17 (nI k) (nI (v.1 4)) x4 o n) _ _ = _
        unfold L_X8_above_17_step
        rw [hM.2.2.2.1]
        simp (disch := omega) only [bd_s, nm_s, l_0, l_1, l_2, l_3, l_4, l_5, l_6, l_7, l_8, l_9, l_10, l_16, l_20, l_32, l_44, l_48, l_57, l_59, l_60, l_99, l_100, l_107, l_108, l_112, l_255, l_256, l_300, l_9999, le_nI, lt_nI, eq_nI, cl_nI, ck_nI, gd_d, b2i_z, b2i_o, has_c, has_m, bit_c, within_c, nI_add, if_pos, if_neg, nI_or, nI_and, sh1_nI, pk_sub, gd_ckz]) (v.1 3) 0 () 512 (by omega) (by omega) trivial
    obtain ⟨_, h1, -⟩ := key
    exact h1
  have pass2 : ∀ x4 : Int32, L_X8_above_17 (nI k) (nI (v.1 4)) x4 o 512 (nI (abv v k (v.1 3))) (nI 0) = some (nI (abv v k (v.1 3))) := by
    intro x4
    have e3 := lt (v.1 3) h8
    have key := loop_up (fun n (x : Int32 × Int32) => L_X8_above_17 (nI k) (nI (v.1 4)) x4 o n x.1 x.2) (fun j (_ : Unit) => (nI (abv v k (v.1 3)), nI j)) (fun _ u => u) (fun _ => nI (abv v k (v.1 3))) (v.1 3) (fun j _ => True)
      (by
        intro n j u hj _
        refine ⟨?_, trivial⟩
        show L_X8_above_17_step (nI k) (nI (v.1 4)) x4 o (L_X8_above_17 (nI k) (nI (v.1 4)) x4 o n) _ _ = L_X8_above_17 (nI k) (nI (v.1 4)) x4 o n _ _
        unfold L_X8_above_17_step
        have hjj := hM.2.2.2.2.2.2 j hj
        have e1 := hv.th hj
        have e2 : v.2 2 j &&& (abv v k (v.1 3) ||| 2 ^ k) < 256 := and_lt8 _ e1
        have e4 : v.2 2 j &&& (abv v k (v.1 3) ||| 2 ^ k) = v.2 2 j &&& (abv v k j ||| 2 ^ k) := and_low (hv.2.2.2.2.2.2 j hj).2.2.2.1 (fun i hi => by rw [Nat.testBit_or, Nat.testBit_or, abv_low (by omega) i hi])
        have e5 := abv_tb (v := v) (k := k) (v.1 3) j
        rw [hM.2.2.2.1]
        simp (disch := omega) only [bd_s, nm_s, l_0, l_1, l_2, l_3, l_4, l_5, l_6, l_7, l_8, l_9, l_10, l_16, l_20, l_32, l_44, l_48, l_57, l_59, l_60, l_99, l_100, l_107, l_108, l_112, l_255, l_256, l_300, l_9999, le_nI, lt_nI, eq_nI, cl_nI, ck_nI, gd_d, b2i_z, b2i_o, has_c, has_m, bit_c, within_c, nI_add, if_pos, if_neg, nI_or, nI_and, sh1_nI, pk_sub, gd_ckz, hjj.2.2.1, nI_or0]
        cases q1 : (v.1 4).testBit j
        · simp
        · by_cases q2 : v.2 2 j &&& (abv v k (v.1 3) ||| 2 ^ k) = 0
          · simp [q2]
          · have e6 : (abv v k (v.1 3)).testBit j = true := by rw [e5, ← e4]; simp [hj, q1, q2]
            have e7 : abv v k (v.1 3) ||| 2 ^ j = abv v k (v.1 3) := by
              apply Nat.eq_of_testBit_eq
              intro i
              rw [Nat.testBit_or, pw_tb]
              by_cases hij : j = i
              · subst hij; simp [e6]
              · simp [hij]
            simp [q2, e7])
      (by
        intro n u _
        show L_X8_above_17_step (nI k) (nI (v.1 4)) x4 o (L_X8_above_17 (nI k) (nI (v.1 4)) x4 o n) _ _ = _
        unfold L_X8_above_17_step
        rw [hM.2.2.2.1]
        simp (disch := omega) only [bd_s, nm_s, l_0, l_1, l_2, l_3, l_4, l_5, l_6, l_7, l_8, l_9, l_10, l_16, l_20, l_32, l_44, l_48, l_57, l_59, l_60, l_99, l_100, l_107, l_108, l_112, l_255, l_256, l_300, l_9999, le_nI, lt_nI, eq_nI, cl_nI, ck_nI, gd_d, b2i_z, b2i_o, has_c, has_m, bit_c, within_c, nI_add, if_pos, if_neg, nI_or, nI_and, sh1_nI, pk_sub, gd_ckz]) (v.1 3) 0 () 512 (by omega) (by omega) trivial
    obtain ⟨_, h1, -⟩ := key
    exact h1
  have s1 : ∀ n x3 x4, L_X8_above_5 (nI k) (nI (v.1 4)) o (n + 1) x3 x4 = if x4 = x3 then some x3 else bd (L_X8_above_17 (nI k) (nI (v.1 4)) x3 o 512 x3 (0 : Int32)) (fun z1 => L_X8_above_5 (nI k) (nI (v.1 4)) o n z1 x3) := fun _ _ _ => rfl
  have hA := lt (v.1 3) h8
  unfold f_X8_above
  rw [← abv_end hv]
  rw [show (512 : Nat) = 509 + 1 + 1 + 1 from rfl, s1, l_0, if_neg (by decide), pass, bd_s, s1, l_0]
  by_cases hq : nI 0 = nI (abv v k (v.1 3))
  · rw [if_pos hq]; rfl
  · rw [if_neg hq, pass2, bd_s, s1, if_pos rfl]; rfl
