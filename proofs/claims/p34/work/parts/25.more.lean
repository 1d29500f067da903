/-! ===== a knot more, a town told of (own text) ===== -/
theorem sA1 (o : Ob) (k i : Nat) (x : Int32) : (sA o k i x).1 = o.1 := rfl
theorem sF2 (o : Ob) (k : Nat) (x : Int32) : (sF o k x).2 = o.2 := rfl
theorem sF1 (o : Ob) (k j : Nat) (x : Int32) : (sF o k x).1 j = if j = k then x else o.1 j := rfl
theorem sA2 (o : Ob) (k i k' j : Nat) (x : Int32) : (sA o k i x).2 k' j = if k' = k ∧ j = i then x else o.2 k' j := by
  show (if k' = k then upd (o.2 k) i x else o.2 k') j = _
  by_cases q : k' = k
  · subst q
    rw [if_pos rfl]
    show (if j = i then x else o.2 k' j) = _
    by_cases q2 : j = i
    · rw [if_pos q2, if_pos ⟨rfl, q2⟩]
    · rw [if_neg q2, if_neg (fun e => q2 e.2)]
  · rw [if_neg q, if_neg (fun e => q e.1)]
def MB (o : Ob) (s b : Nat) (v : TV) : Prop := o.2 2 s = nI (v.1 0) ∧ o.2 3 s = nI (v.1 1) ∧ o.2 4 s = nI (v.1 2) ∧ o.2 5 b = nI (v.1 3) ∧ o.2 11 b = nI (v.1 4) ∧ o.2 12 b = nI (v.1 5) ∧
  ∀ k, k < v.1 3 → o.2 6 (8 * b + k) = nI (v.2 0 k) ∧ o.2 7 (8 * b + k) = nI (v.2 1 k) ∧ o.2 8 (8 * b + k) = nI (v.2 2 k) ∧ o.2 9 (8 * b + k) = nI (v.2 3 k) ∧ o.2 10 (8 * b + k) = nI (v.2 4 k)
theorem MB.zero {o : Ob} {v : TV} : MB o 0 0 v ↔ M0 o v := by
  unfold MB M0
  simp only [Nat.mul_zero, Nat.zero_add]
/-- the words of one block -/
def tcb (b i j : Nat) : Prop := (j = b ∧ (i = 5 ∨ i = 11 ∨ i = 12)) ∨ (6 ≤ i ∧ i ≤ 10 ∧ 8 * b ≤ j ∧ j < 8 * b + 8)
def FB (b : Nat) (o o' : Ob) : Prop := o'.1 = o.1 ∧ ∀ i j, ¬ tcb b i j → o'.2 i j = o.2 i j
theorem FB.rf (b : Nat) (o : Ob) : FB b o o := ⟨rfl, fun _ _ _ => rfl⟩
theorem FB.tr {b : Nat} {x y z : Ob} (h1 : FB b x y) (h2 : FB b y z) : FB b x z := ⟨h2.1.trans h1.1, fun i j hj => (h2.2 i j hj).trans (h1.2 i j hj)⟩
theorem FB.sA {b : Nat} {o : Ob} {k j : Nat} {x : Int32} (h : tcb b k j) : FB b o (sA o k j x) := ⟨rfl, fun i j' ht => by
  rw [sA2, if_neg]
  rintro ⟨rfl, rfl⟩
  exact ht h⟩
theorem FB.fr {o o' : Ob} (h : FB 1 o o') : Fr o o' := ⟨fun i _ => by rw [h.1], fun i j _ ht => h.2 i j (fun hc => ht (by unfold tcb at hc; unfold tch; omega))⟩
theorem FB.mb {b s b' : Nat} {o o' : Ob} {v : TV} (h : FB b o o') (hne : b' ≠ b) (h8 : v.1 3 ≤ 8) (hm : MB o s b' v) : MB o' s b' v := by
  unfold MB at hm ⊢
  have e : ∀ i j, ¬ tcb b i j → o'.2 i j = o.2 i j := h.2
  rw [e 2 s (by unfold tcb; omega), e 3 s (by unfold tcb; omega), e 4 s (by unfold tcb; omega), e 5 b' (by unfold tcb; omega), e 11 b' (by unfold tcb; omega), e 12 b' (by unfold tcb; omega)]
  refine ⟨hm.1, hm.2.1, hm.2.2.1, hm.2.2.2.1, hm.2.2.2.2.1, hm.2.2.2.2.2.1, fun k hk => ?_⟩
  rw [e 6 _ (by unfold tcb; omega), e 7 _ (by unfold tcb; omega), e 8 _ (by unfold tcb; omega), e 9 _ (by unfold tcb; omega), e 10 _ (by unfold tcb; omega)]
  exact hm.2.2.2.2.2.2 k hk
def good (v : TV) (x1 x2 x3 x4 x5 : Int32) : Bool := inb x1 (v.1 0) && (inb x2 (v.1 0) && (decide (¬ x1 = x2) && (inb x3 (2 ^ v.1 3) && (inb x4 100 && inb x5 4))))
theorem rng_c {α : Type} (x : Int32) (N : Nat) (hN : N < 1000000) (A C : α) : (if x < (0 : Int32) then A else if nI N < x then A else C) = if inb x (N + 1) = true then C else A := by
  by_cases q : x < 0
  · rw [if_pos q, inb_neg q]; rfl
  · obtain ⟨k, hk, rfl⟩ := nI_of q
    rw [if_neg q, inb_nI (by omega)]
    by_cases q2 : N < k
    · rw [if_pos ((nI_ltI (by omega) (by omega)).mpr q2), if_neg (by simp; omega)]
    · rw [if_neg (fun e => q2 ((nI_ltI (by omega) (by omega)).mp e)), if_pos (by simp; omega)]
theorem rng_m (x : Int32) (N : Nat) (hN : N < 1000000) (z : Int64) (hz : z.toInt = N) : f_X8_in x.toInt64 (0 : Int64) z = some (b2i (inb x (N + 1))) := by
  rw [in_m, tl_i, z64, hz]
  unfold inb
  congr 3
  apply decide_eq_decide.mpr; omega
theorem suits_c {T : Ob} {v : TV} (hT : TC T v) (hv : TOK v) (x1 x2 x3 x4 x5 : Int32) : f_X6_suits T x1 x2 x3 x4 x5 = some (b2i (good v x1 x2 x3 x4 x5)) := by
  unfold f_X6_suits good
  rw [isPerson_c hT hv, isPerson_c hT hv, isSet_c hT hv, l_99, l_3]
  simp only [bd_s, rng_c _ 99 (by omega), rng_c _ 3 (by omega)]
  simp only [l_0, b2i_z]
  cases inb x1 (v.1 0)
  · rfl
  · cases inb x2 (v.1 0)
    · rfl
    · by_cases q : x1 = x2
      · simp [q, b2i, l_0]
      · cases inb x3 (2 ^ v.1 3)
        · simp [b2i, l_0]
        · cases inb x4 100 <;> cases inb x5 4 <;> simp [q, b2i, l_0]
theorem isKnot_m {o : Ob} {b : Nat} {v : TV} (hM : MB o b b v) (hb : b < 2) (hv : TOK v) (x1 x2 x3 x4 x5 : Int32) : f_X8_isKnot o (nI b) x1 x2 x3 x4 x5 = some (b2i (good v x1 x2 x3 x4 x5)) := by
  have h6 := hv.1
  have h8 := hv.2.2.2.1
  unfold f_X8_isKnot good
  rw [cl_nI (by omega), ck_nI (by omega), ck_nI (by omega), gd_d hb, gd_d (by omega), hM.1, hM.2.2.2.1, l_1, sh1_nI (by omega), isSet_m hv, rng_m x4 99 (by omega) 99 (by decide), rng_m x5 3 (by omega) 3 (by decide)]
  rw [in_m, in_m, nm1_i (by omega), tl_i, tl_i, z64, inb_d, inb_d]
  simp only [bd_s, l_0, b2i_z]
  cases inb x1 (v.1 0)
  · rfl
  · cases inb x2 (v.1 0)
    · rfl
    · by_cases q : x1 = x2
      · simp [q, b2i, l_0]
      · cases inb x3 (2 ^ v.1 3)
        · simp [q, b2i, l_0]
        · cases inb x4 100 <;> cases inb x5 4 <;> simp [q, b2i, l_0, l_1]
theorem good_of {v : TV} (hv : TOK v) {x1 x2 x3 x4 x5 : Int32} (h : good v x1 x2 x3 x4 x5 = true) : ∃ a c t d k : Nat, x1 = nI a ∧ x2 = nI c ∧ x3 = nI t ∧ x4 = nI d ∧ x5 = nI k ∧ a < v.1 0 ∧ c < v.1 0 ∧ a ≠ c ∧ t < 2 ^ v.1 3 ∧ d ≤ 99 ∧ k ≤ 3 := by
  have h6 := hv.1
  have h8 := hv.2.2.2.1
  have hpw : 2 ^ v.1 3 ≤ 256 := Nat.pow_le_pow_right (n := 2) (i := v.1 3) (j := 8) (by omega) h8
  unfold good at h
  simp only [Bool.and_eq_true, decide_eq_true_iff] at h
  obtain ⟨h1, h2, h3, h4, h5, h7⟩ := h
  obtain ⟨a, ha, rfl⟩ := inb_of (by omega) h1
  obtain ⟨c, hc, rfl⟩ := inb_of (by omega) h2
  obtain ⟨t, ht, rfl⟩ := inb_of (by omega) h4
  obtain ⟨d, hd, rfl⟩ := inb_of (by omega) h5
  obtain ⟨k, hk, rfl⟩ := inb_of (by omega) h7
  exact ⟨a, c, t, d, k, rfl, rfl, rfl, rfl, rfl, ha, hc, fun e => h3 (by rw [e]), ht, by omega, by omega⟩
def vK (v : TV) (a c t d k : Nat) : TV := (fun i => if i = 3 then v.1 3 + 1 else if i = 4 then v.1 4 ||| 2 ^ v.1 3 else v.1 i, fun i j => if j = v.1 3 then (if i = 0 then a else if i = 1 then c else if i = 2 then t else if i = 3 then d else k) else v.2 i j)
theorem vK_ok {v : TV} (hv : TOK v) {a c t d k : Nat} (h8 : v.1 3 < 8) (ha : a < v.1 0) (hc : c < v.1 0) (hac : a ≠ c) (ht : t < 2 ^ v.1 3) (hd : d ≤ 99) (hk : k ≤ 3) : TOK (vK v a c t d k) := by
  obtain ⟨h0, h1, h2, h3, h4, h5, h6⟩ := hv
  refine ⟨h0, h1, h2, (by show v.1 3 + 1 ≤ 8; omega), ?_, h5, fun j hj => ?_⟩
  · show v.1 4 ||| 2 ^ v.1 3 < 2 ^ (v.1 3 + 1)
    refine Nat.or_lt_two_pow (Nat.lt_of_lt_of_le h4 (Nat.pow_le_pow_right (n := 2) (by omega) (by omega))) (Nat.pow_lt_pow_right (a := 2) (by omega) (by omega))
  · have hj : j < v.1 3 + 1 := hj
    by_cases q : j = v.1 3
    · subst q
      simp [vK]
      exact ⟨ha, hc, hac, ht, hd, hk⟩
    · have := h6 j (by omega)
      simp [vK, q]
      exact this
theorem addKnot_c {T : Ob} {v : TV} (hT : TC T v) (hv : TOK v) {a c t d k : Nat} (h8 : v.1 3 < 8) (ha : a < v.1 0) (hc : c < v.1 0) (hg : good v (nI a) (nI c) (nI t) (nI d) (nI k) = true) : ∃ T', f_X6_addKnot T (nI a) (nI c) (nI t) (nI d) (nI k) = some ((1 : Int32), T') ∧ TC T' (vK v a c t d k) := by
  have h6 := hv.1
  have htd := hv.td
  obtain ⟨c0, c1, c2, c3, c4, c5, c6⟩ := hT
  refine ⟨sF (sF (sA (sA (sA (sA (sA (sA T 0 (v.1 3) (nI a)) 1 (v.1 3) (nI c)) 2 (v.1 3) (nI (2 ^ a ||| 2 ^ c))) 3 (v.1 3) (nI t)) 4 (v.1 3) (nI d)) 5 (v.1 3) (nI k)) 10 (nI (v.1 4 ||| 2 ^ v.1 3))) 9 (nI (v.1 3 + 1)), ?_, ?_⟩
  · unfold f_X6_addKnot
    rw [suits_c ⟨c0, c1, c2, c3, c4, c5, c6⟩ hv, hg, c3, if_neg (by rw [l_8, nI_leI (by omega) (by omega)]; omega), bd_s, if_neg (by decide)]
    simp (disch := omega) only [bd_s, nm_s, cl_nI, ck_nI, gd_d, bit_c, nI_or, sA1, c3, c4, sF1, Nat.reduceEqDiff, ↓reduceIte, l_1, nI_add]
  · refine ⟨?_, ?_, ?_, ?_, ?_, ?_, fun j hj => ?_⟩
    · simp [vK, sF1, sF2, sA1, c0]
    · simp [vK, sF1, sF2, sA1, c1]
    · simp [vK, sF1, sF2, sA1, c2]
    · simp [vK, sF1, sF2, sA1]
    · simp [vK, sF1, sF2, sA1]
    · simp [vK, sF1, sF2, sA1, c5]
    · have hj : j < v.1 3 + 1 := hj
      by_cases q : j = v.1 3
      · subst q
        simp [vK, sF2, sA2, pp]
      · have := c6 j (by omega)
        simp [vK, sF2, sA2, pp, q]
        exact this
theorem addKnot_m {o : Ob} {s b : Nat} {v : TV} (hM : MB o s b v) (hb : b < 4) (hv : TOK v) {a c t d k : Nat} (h8 : v.1 3 < 8) : ∃ o', f_X8_addKnot o (nI b) (nI a) (nI c) (nI t) (nI d) (nI k) = some o' ∧ MB o' s b (vK v a c t d k) ∧ FB b o o' := by
  have htd := hv.td
  obtain ⟨c0, c1, c2, c3, c4, c5, c6⟩ := hM
  refine ⟨sA (sA (sA (sA (sA (sA (sA o 6 (8 * b + v.1 3) (nI a)) 7 (8 * b + v.1 3) (nI c)) 8 (8 * b + v.1 3) (nI t)) 9 (8 * b + v.1 3) (nI d)) 10 (8 * b + v.1 3) (nI k)) 11 b (nI (v.1 4 ||| 2 ^ v.1 3))) 5 b (nI (v.1 3 + 1)), ?_, ?_, ?_⟩
  · unfold f_X8_addKnot
    rw [cl_nI (by omega), c3]
    simp (disch := omega) only [bd_s, nm_s, cl_nI, ck_nI, gd_d, l_8, pk_mul, nI_add, l_1, sh1_nI, nI_or, sA2, c3, c4, Nat.reduceEqDiff, false_and, ↓reduceIte]
  · refine ⟨?_, ?_, ?_, ?_, ?_, ?_, fun j hj => ?_⟩
    · simp [vK, sA2, c0]
    · simp [vK, sA2, c1]
    · simp [vK, sA2, c2]
    · simp [vK, sA2]
    · simp [vK, sA2]
    · simp [vK, sA2, c5]
    · have hj : j < v.1 3 + 1 := hj
      by_cases q : j = v.1 3
      · subst q
        simp [vK, sA2]
      · have := c6 j (by omega)
        simp [vK, sA2, q]
        exact this
  · refine (((((FB.sA ?_).tr (FB.sA ?_)).tr (FB.sA ?_)).tr (FB.sA ?_)).tr (FB.sA ?_)).tr ((FB.sA ?_).tr (FB.sA ?_)) <;> unfold tcb <;> omega
