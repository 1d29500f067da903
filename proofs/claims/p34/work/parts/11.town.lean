/-! ===== a town as numbers, what its words mean (own text) ===== -/
/-- scalars: 0 persons, 1 alive, 2 law, 3 knots, 4 tied, 5 day; arrays: 0 first, 1 second, 2 through, 3 due, 4 kind -/
abbrev TV : Type := (Nat → Nat) × (Nat → Nat → Nat)
def pp (v : TV) (k : Nat) : Nat := 2 ^ v.2 0 k ||| 2 ^ v.2 1 k
def TC (T : Ob) (v : TV) : Prop := T.1 6 = nI (v.1 0) ∧ T.1 7 = nI (v.1 1) ∧ T.1 8 = nI (v.1 2) ∧ T.1 9 = nI (v.1 3) ∧ T.1 10 = nI (v.1 4) ∧ T.1 11 = nI (v.1 5) ∧
  ∀ k, k < v.1 3 → T.2 0 k = nI (v.2 0 k) ∧ T.2 1 k = nI (v.2 1 k) ∧ T.2 2 k = nI (pp v k) ∧ T.2 3 k = nI (v.2 2 k) ∧ T.2 4 k = nI (v.2 3 k) ∧ T.2 5 k = nI (v.2 4 k)
def TOK (v : TV) : Prop := v.1 0 ≤ 6 ∧ v.1 1 < 2 ^ v.1 0 ∧ v.1 2 ≤ 2 ∧ v.1 3 ≤ 8 ∧ v.1 4 < 2 ^ v.1 3 ∧ v.1 5 ≤ 99 ∧
  ∀ k, k < v.1 3 → v.2 0 k < v.1 0 ∧ v.2 1 k < v.1 0 ∧ v.2 0 k ≠ v.2 1 k ∧ v.2 2 k < 2 ^ k ∧ v.2 3 k ≤ 99 ∧ v.2 4 k ≤ 3
theorem TOK.td {v : TV} (h : TOK v) : v.1 4 < 256 := Nat.lt_of_lt_of_le h.2.2.2.2.1 (Nat.pow_le_pow_right (n := 2) (by omega) (h.2.2.2.1))
theorem TOK.al {v : TV} (h : TOK v) : v.1 1 < 64 := Nat.lt_of_lt_of_le h.2.1 (Nat.pow_le_pow_right (n := 2) (i := v.1 0) (j := 6) (by omega) (h.1))
theorem TOK.th {v : TV} (h : TOK v) {k : Nat} (hk : k < v.1 3) : v.2 2 k < 256 := Nat.lt_of_lt_of_le (h.2.2.2.2.2.2 k hk).2.2.2.1 (Nat.pow_le_pow_right (n := 2) (i := k) (j := 8) (by omega) (by have := h.2.2.2.1; omega))
theorem TOK.pp {v : TV} (h : TOK v) {k : Nat} (hk : k < v.1 3) : pp v k < 64 := by
  have h1 := h.2.2.2.2.2.2 k hk
  have h0 := h.1
  exact Nat.or_lt_two_pow (n := 6) (Nat.pow_lt_pow_right (a := 2) (by omega) (by omega)) (Nat.pow_lt_pow_right (a := 2) (by omega) (by omega))
/-- a set of knots that there are -/
def inK (v : TV) (s : Nat) : Prop := s < 2 ^ v.1 3
theorem inK.lt {v : TV} (h : TOK v) {s : Nat} (hs : inK v s) : s < 256 := Nat.lt_of_lt_of_le hs (Nat.pow_le_pow_right (n := 2) (by omega) (h.2.2.2.1))
theorem inK.tb {v : TV} {s j : Nat} (hs : inK v s) (hj : s.testBit j = true) : j < v.1 3 := by
  rcases Nat.lt_or_ge j (v.1 3) with q | q
  · exact q
  · rw [Nat.testBit_lt_two_pow (Nat.lt_of_lt_of_le hs (Nat.pow_le_pow_right (n := 2) (by omega) q))] at hj; cases hj
theorem inK.of {v : TV} {s : Nat} (h : ∀ j, s.testBit j = true → j < v.1 3) : inK v s := by
  apply Nat.lt_pow_two_of_testBit
  intro i hi
  cases hb : s.testBit i with
  | false => rfl
  | true => have := h i hb; omega
def stops (v : TV) (k j : Nat) : Bool := (v.2 2 j).testBit k || (decide (v.2 4 k = 3) && decide (¬ (pp v j &&& pp v k = 0)))
def way (v : TV) (k s : Nat) : Nat := msk (fun j => decide (j ≠ k) && (s.testBit j && stops v k j)) 8
def lawful (v : TV) (k al : Nat) : Bool := decide (v.1 2 = 2) || (decide (sd (pp v k) al = 0) || (decide (v.1 2 = 1) && decide (¬ (pp v k &&& al = 0))))
def stat (v : TV) (k dy al : Nat) : Bool := lawful v k al && (decide (v.2 4 k ≠ 2) || decide (v.2 3 k ≤ dy))
def may (v : TV) (k s dy al : Nat) : Bool := s.testBit k && (stat v k dy al && decide (way v k s = 0))
def abv (v : TV) (k : Nat) : Nat → Nat
  | 0 => 0
  | j + 1 => abv v k j ||| (if (v.1 4).testBit j && decide (¬ (v.2 2 j &&& (abv v k j ||| 2 ^ k) = 0)) then 2 ^ j else 0)
/-- an int that is a number below n -/
def inb (x : Int32) (n : Nat) : Bool := decide (0 ≤ x.toInt) && decide (x.toInt < n)
theorem inb_nI {a n : Nat} (ha : a < 2147483648) : inb (nI a) n = decide (a < n) := by
  unfold inb
  rw [nI_toInt ha]
  by_cases h : a < n
  · have h1 : (a : Int) < n := by omega
    simp [h, h1]
  · have h1 : ¬ (a : Int) < n := by omega
    simp [h, h1]
theorem inb_neg {x : Int32} {n : Nat} (h : x < 0) : inb x n = false := by
  have h1 : x.toInt < 0 := Int32.lt_iff_toInt_lt.mp h
  have h2 : ¬ 0 ≤ x.toInt := by omega
  simp [inb, h2]
theorem inb_of {x : Int32} {n : Nat} (hn : n < 2147483648) (h : inb x n = true) : ∃ k, k < n ∧ x = nI k := by
  by_cases hx : x < 0
  · rw [inb_neg hx] at h; cases h
  · obtain ⟨k, hk, rfl⟩ := nI_of hx
    rw [inb_nI (by omega)] at h
    exact ⟨k, of_decide_eq_true h, rfl⟩
theorem isKnot_c {T : Ob} {v : TV} (hT : TC T v) (hv : TOK v) (x : Int32) : f_X6_isKnot T x = some (b2i (inb x (v.1 3))) := by
  unfold f_X6_isKnot
  rw [hT.2.2.2.1]
  have h8 := hv.2.2.2.1
  by_cases h : x < 0
  · rw [inb_neg h]; simp [h, b2i]
  · obtain ⟨j, hj, rfl⟩ := nI_of h
    rw [inb_nI (by omega)]
    have h' : ¬ (nI j < nI 0) := h
    simp (disch := omega) only [bd_s, nm_s, l_0, l_1, l_2, l_3, l_4, l_5, l_6, l_7, l_8, l_9, l_10, l_16, l_20, l_32, l_44, l_48, l_57, l_59, l_60, l_99, l_100, l_107, l_108, l_112, l_255, l_256, l_300, l_9999, le_nI, lt_nI, eq_nI, cl_nI, ck_nI, gd_d, b2i_z, b2i_o, has_c, has_m, bit_c, within_c, nI_add, if_pos, if_neg, nI_or, nI_and, sh1_nI, pk_sub, gd_ckz, h']
    by_cases h2 : j < v.1 3
    · have h3 : ¬ v.1 3 ≤ j := by omega
      have h4 : ¬ 8 ≤ j := by omega
      simp [h2, h3, h4, b2i]; rfl
    · have h3 : v.1 3 ≤ j := by omega
      simp [h2, h3, b2i]; rfl
theorem isKnot_n {T : Ob} {v : TV} (hT : TC T v) (hv : TOK v) {k : Nat} (hk : k < v.1 3) : f_X6_isKnot T (nI k) = some (b2i true) := by
  have h8 := hv.2.2.2.1
  rw [isKnot_c hT hv, inb_nI (by omega)]
  simp [hk]
theorem J68_c (self : Int32 → Int32 → Option Int32) (b : Bool) {k s acc j : Nat} (o : Ob) (hk : k < 8) (hs : s < 256) (hj : j < 8) :
    J_X6_inTheWay_68l15 self (b2i b) (nI k) (nI s) (nI acc) (nI j) o = self (nI (acc ||| (if decide (j ≠ k) && (s.testBit j && b) then 2 ^ j else 0))) (nI (j + 1)) := by
  unfold J_X6_inTheWay_68l15
  simp (disch := omega) only [bd_s, nm_s, l_0, l_1, l_2, l_3, l_4, l_5, l_6, l_7, l_8, l_9, l_10, l_16, l_20, l_32, l_44, l_48, l_57, l_59, l_60, l_99, l_100, l_107, l_108, l_112, l_255, l_256, l_300, l_9999, le_nI, lt_nI, eq_nI, cl_nI, ck_nI, gd_d, b2i_z, b2i_o, has_c, has_m, bit_c, within_c, nI_add, if_pos, if_neg, nI_or, nI_and, sh1_nI, pk_sub, gd_ckz]
  by_cases h1 : j = k
  · subst h1; simp
  · cases h2 : s.testBit j <;> cases b <;> simp [h1]
theorem way_c {T : Ob} {v : TV} (hT : TC T v) (hv : TOK v) {k s : Nat} (hk : k < v.1 3) (hs : inK v s) : f_X6_inTheWay T (nI k) (nI s) = some (nI (way v k s)) := by
  have h8 := hv.2.2.2.1
  have hsl := hs.lt hv
  unfold f_X6_inTheWay
  rw [isKnot_n hT hv hk]
  have key := loop_up (fun n (x : Int32 × Int32) => L_X6_inTheWay_15 (nI k) (nI s) T n x.1 x.2) (fun j (_ : Unit) => (nI (msk (fun j => decide (j ≠ k) && (s.testBit j && stops v k j)) j), nI j)) (fun _ u => u) (fun _ => nI (way v k s)) 8 (fun _ _ => True)
    (by
      intro n j t hj _
      refine ⟨?_, trivial⟩
      show L_X6_inTheWay_15_step (nI k) (nI s) T (L_X6_inTheWay_15 (nI k) (nI s) T n) _ _ = L_X6_inTheWay_15 (nI k) (nI s) T n _ _
      unfold L_X6_inTheWay_15_step J_X6_inTheWay_67l15 J_X6_inTheWay_63l15
      have hkk := hT.2.2.2.2.2.2 k hk
      by_cases hjn : j < v.1 3
      · have hjj := hT.2.2.2.2.2.2 j hjn
        have e1 := hv.th hjn
        have e2 := hv.pp hjn
        have e3 := hv.pp hk
        have e4 := (hv.2.2.2.2.2.2 k hk).2.2.2.2.2
        have e5 : pp v j &&& pp v k < 64 := Nat.lt_of_le_of_lt Nat.and_le_left e2
        simp (disch := omega) only [bd_s, nm_s, l_0, l_1, l_2, l_3, l_4, l_5, l_6, l_7, l_8, l_9, l_10, l_16, l_20, l_32, l_44, l_48, l_57, l_59, l_60, l_99, l_100, l_107, l_108, l_112, l_255, l_256, l_300, l_9999, le_nI, lt_nI, eq_nI, cl_nI, ck_nI, gd_d, b2i_z, b2i_o, has_c, has_m, bit_c, within_c, nI_add, if_pos, if_neg, nI_or, nI_and, sh1_nI, pk_sub, gd_ckz, hjj.2.2.2.1, hkk.2.2.2.2.2, hjj.2.2.1, hkk.2.2.1]
        rw [show (nI 1) = b2i true from rfl, show nI 0 = b2i false from rfl]
        simp (disch := omega) only [J68_c]
        rw [msk]
        cases h1 : (v.2 2 j).testBit k <;> by_cases h2 : v.2 4 k = 3 <;> by_cases h3 : pp v j &&& pp v k = 0 <;> simp [h1, h2, h3, stops]
      · have hb : s.testBit j = false := by
          cases hb : s.testBit j with
          | false => rfl
          | true => exact absurd (hs.tb hb) hjn
        obtain ⟨b, hb2⟩ := has_t (T.2 3 j) (nI k)
        simp (disch := omega) only [bd_s, nm_s, l_0, l_1, l_2, l_3, l_4, l_5, l_6, l_7, l_8, l_9, l_10, l_16, l_20, l_32, l_44, l_48, l_57, l_59, l_60, l_99, l_100, l_107, l_108, l_112, l_255, l_256, l_300, l_9999, le_nI, lt_nI, eq_nI, cl_nI, ck_nI, gd_d, b2i_z, b2i_o, has_c, has_m, bit_c, within_c, nI_add, if_pos, if_neg, nI_or, nI_and, sh1_nI, pk_sub, gd_ckz, hb2]
        rw [show (nI 1) = b2i true from rfl, show nI 0 = b2i false from rfl]
        simp (disch := omega) only [J68_c, hb]
        rw [msk, hb]
        simp)
    (by
      intro n t _
      show L_X6_inTheWay_15_step (nI k) (nI s) T (L_X6_inTheWay_15 (nI k) (nI s) T n) _ _ = _
      unfold L_X6_inTheWay_15_step
      simp (disch := omega) only [bd_s, nm_s, l_0, l_1, l_2, l_3, l_4, l_5, l_6, l_7, l_8, l_9, l_10, l_16, l_20, l_32, l_44, l_48, l_57, l_59, l_60, l_99, l_100, l_107, l_108, l_112, l_255, l_256, l_300, l_9999, le_nI, lt_nI, eq_nI, cl_nI, ck_nI, gd_d, b2i_z, b2i_o, has_c, has_m, bit_c, within_c, nI_add, if_pos, if_neg, nI_or, nI_and, sh1_nI, pk_sub, gd_ckz]
      rfl) 8 0 () 512 rfl (by omega) trivial
  obtain ⟨_, h1, -⟩ := key
  have h2 : L_X6_inTheWay_15 (nI k) (nI s) T 512 (nI 0) (nI 0) = some (nI (way v k s)) := h1
  simp only [bd_s, l_0, b2i_z, h2]
  rfl

theorem way_lt (v : TV) (k s : Nat) : way v k s < 256 := msk_8 _ (by omega)
theorem way_tb (v : TV) (k s j : Nat) : (way v k s).testBit j = (decide (j < 8) && (decide (j ≠ k) && (s.testBit j && stops v k j))) := msk_tb _ _ _
theorem lawful_c {T : Ob} {v : TV} (hT : TC T v) (hv : TOK v) {k al : Nat} (hk : k < v.1 3) (ha : al < 256) : f_X6_isLawful T (T.2 2 k) (nI al) = some (b2i (lawful v k al)) := by
  have h1 := (hT.2.2.2.2.2.2 k hk).2.2.1
  have e2 := hv.pp hk
  have hl := hv.2.2.1
  have e3 : pp v k &&& al < 64 := Nat.lt_of_le_of_lt Nat.and_le_left e2
  unfold f_X6_isLawful lawful
  rw [h1, hT.2.2.1]
  simp (disch := omega) only [bd_s, nm_s, l_0, l_1, l_2, l_3, l_4, l_5, l_6, l_7, l_8, l_9, l_10, l_16, l_20, l_32, l_44, l_48, l_57, l_59, l_60, l_99, l_100, l_107, l_108, l_112, l_255, l_256, l_300, l_9999, le_nI, lt_nI, eq_nI, cl_nI, ck_nI, gd_d, b2i_z, b2i_o, has_c, has_m, bit_c, within_c, nI_add, if_pos, if_neg, nI_or, nI_and, sh1_nI, pk_sub, gd_ckz]
  by_cases q1 : v.1 2 = 2
  · simp [q1]; rfl
  · by_cases q2 : sd (pp v k) al = 0
    · simp [q1, q2]; rfl
    · by_cases q3 : v.1 2 = 1 <;> by_cases q4 : pp v k &&& al = 0 <;> simp [q1, q2, q3, q4] <;> rfl
theorem may_c {T : Ob} {v : TV} (hT : TC T v) (hv : TOK v) {k s dy al : Nat} (hk : k < v.1 3) (hs : inK v s) (hd : dy < 256) (ha : al < 256) : f_X6_mayBe T (nI k) (nI s) (nI dy) (nI al) = some (b2i (may v k s dy al)) := by
  have h8 := hv.2.2.2.1
  have hsl := hs.lt hv
  have hkk := hT.2.2.2.2.2.2 k hk
  have hok := hv.2.2.2.2.2.2 k hk
  have hw := way_lt v k s
  unfold f_X6_mayBe
  rw [isKnot_n hT hv hk]
  simp (disch := omega) only [bd_s, nm_s, l_0, l_1, l_2, l_3, l_4, l_5, l_6, l_7, l_8, l_9, l_10, l_16, l_20, l_32, l_44, l_48, l_57, l_59, l_60, l_99, l_100, l_107, l_108, l_112, l_255, l_256, l_300, l_9999, le_nI, lt_nI, eq_nI, cl_nI, ck_nI, gd_d, b2i_z, b2i_o, has_c, has_m, bit_c, within_c, nI_add, if_pos, if_neg, nI_or, nI_and, sh1_nI, pk_sub, gd_ckz, hkk.2.2.2.2.2, hkk.2.2.2.2.1, lawful_c hT hv hk ha, way_c hT hv hk hs]
  unfold may stat
  cases q1 : s.testBit k
  · simp; rfl
  · cases q2 : lawful v k al
    · simp; rfl
    · by_cases q3 : v.2 4 k = 2
      · by_cases q4 : dy < v.2 3 k
        · have : ¬ v.2 3 k ≤ dy := by omega
          simp [q3, q4, this]; rfl
        · have : v.2 3 k ≤ dy := by omega
          by_cases q5 : way v k s = 0 <;> simp [q3, q4, this, q5] <;> rfl
      · by_cases q5 : way v k s = 0 <;> simp [q3, q5] <;> rfl
theorem may_out {T : Ob} {v : TV} (hT : TC T v) (hv : TOK v) {k : Nat} (s dy al : Int32) (hk : ¬ k < v.1 3) (hk2 : k < 2147483648) : f_X6_mayBe T (nI k) s dy al = some (b2i false) := by
  unfold f_X6_mayBe
  rw [isKnot_c hT hv, inb_nI hk2]
  simp only [hk, bd_s, nm_s, l_0, l_1, l_2, l_3, l_4, l_5, l_6, l_7, l_8, l_9, l_10, l_16, l_20, l_32, l_44, l_48, l_57, l_59, l_60, l_99, l_100, l_107, l_108, l_112, l_255, l_256, l_300, l_9999, le_nI, lt_nI, eq_nI, cl_nI, ck_nI, gd_d, b2i_z, b2i_o, has_c, has_m, bit_c, within_c, nI_add, if_pos, if_neg, nI_or, nI_and, sh1_nI, pk_sub, gd_ckz, decide_false]
  rfl
theorem above_c {T : Ob} {v : TV} (hT : TC T v) (hv : TOK v) {k : Nat} (hk : k < 8) : f_X6_above T (nI k) = some (nI (abv v k 8)) := by
  have h8 := hv.2.2.2.1
  have htd := hv.td
  have pk := pw_lt8 hk
  have key := loop_up (fun n (x : Int32 × Int32) => L_X6_above_4 (nI k) T n x.1 x.2) (fun j (_ : Unit) => (nI (abv v k j), nI j)) (fun _ u => u) (fun _ => nI (abv v k 8)) 8 (fun j _ => abv v k j < 2 ^ j)
    (by
      intro n j t hj hI
      have hI2 : abv v k j < 256 := Nat.lt_of_lt_of_le hI (Nat.pow_le_pow_right (n := 2) (i := j) (j := 8) (by omega) (by omega))
      refine ⟨?_, ?_⟩
      · show L_X6_above_4_step (nI k) T (L_X6_above_4 (nI k) T n) _ _ = L_X6_above_4 (nI k) T n _ _
        unfold L_X6_above_4_step
        rw [hT.2.2.2.2.1]
        simp (disch := omega) only [bd_s, nm_s, l_0, l_1, l_2, l_3, l_4, l_5, l_6, l_7, l_8, l_9, l_10, l_16, l_20, l_32, l_44, l_48, l_57, l_59, l_60, l_99, l_100, l_107, l_108, l_112, l_255, l_256, l_300, l_9999, le_nI, lt_nI, eq_nI, cl_nI, ck_nI, gd_d, b2i_z, b2i_o, has_c, has_m, bit_c, within_c, nI_add, if_pos, if_neg, nI_or, nI_and, sh1_nI, pk_sub, gd_ckz]
        rw [abv]
        cases q1 : (v.1 4).testBit j
        · simp
        · have hjn : j < v.1 3 := inK.tb (v := v) hv.2.2.2.2.1 q1
          have hjj := hT.2.2.2.2.2.2 j hjn
          have e1 := hv.th hjn
          have e2 : v.2 2 j &&& (abv v k j ||| 2 ^ k) < 256 := and_lt8 _ e1
          simp (disch := omega) only [bd_s, nm_s, l_0, l_1, l_2, l_3, l_4, l_5, l_6, l_7, l_8, l_9, l_10, l_16, l_20, l_32, l_44, l_48, l_57, l_59, l_60, l_99, l_100, l_107, l_108, l_112, l_255, l_256, l_300, l_9999, le_nI, lt_nI, eq_nI, cl_nI, ck_nI, gd_d, b2i_z, b2i_o, has_c, has_m, bit_c, within_c, nI_add, if_pos, if_neg, nI_or, nI_and, sh1_nI, pk_sub, gd_ckz, hjj.2.2.2.1]
          by_cases q2 : v.2 2 j &&& (abv v k j ||| 2 ^ k) = 0 <;> simp [q2]
      · rw [abv]
        have h1 : abv v k j < 2 ^ (j + 1) := Nat.lt_of_lt_of_le hI (Nat.pow_le_pow_right (n := 2) (by omega) (by omega))
        refine Nat.or_lt_two_pow h1 ?_
        split
        · exact Nat.pow_lt_pow_right (a := 2) (by omega) (by omega)
        · exact Nat.two_pow_pos _)
    (by
      intro n t _
      show L_X6_above_4_step (nI k) T (L_X6_above_4 (nI k) T n) _ _ = _
      unfold L_X6_above_4_step
      simp (disch := omega) only [bd_s, nm_s, l_0, l_1, l_2, l_3, l_4, l_5, l_6, l_7, l_8, l_9, l_10, l_16, l_20, l_32, l_44, l_48, l_57, l_59, l_60, l_99, l_100, l_107, l_108, l_112, l_255, l_256, l_300, l_9999, le_nI, lt_nI, eq_nI, cl_nI, ck_nI, gd_d, b2i_z, b2i_o, has_c, has_m, bit_c, within_c, nI_add, if_pos, if_neg, nI_or, nI_and, sh1_nI, pk_sub, gd_ckz]) 8 0 () 512 rfl (by omega) (by simp [abv])
  obtain ⟨_, h1, -⟩ := key
  have h2 : L_X6_above_4 (nI k) T 512 (nI 0) (nI 0) = some (nI (abv v k 8)) := h1
  unfold f_X6_above
  simp only [bd_s, l_0, h2]
theorem abv_lt (v : TV) (k : Nat) : ∀ j, abv v k j < 2 ^ j
  | 0 => by simp [abv]
  | j + 1 => by
    rw [abv]
    have h1 : abv v k j < 2 ^ (j + 1) := Nat.lt_of_lt_of_le (abv_lt v k j) (Nat.pow_le_pow_right (n := 2) (by omega) (by omega))
    refine Nat.or_lt_two_pow h1 ?_
    split
    · exact Nat.pow_lt_pow_right (a := 2) (by omega) (by omega)
    · exact Nat.two_pow_pos _
def kinds (v : TV) (t : Nat) : Nat := msk (fun j => decide (j < v.1 3) && decide (v.2 4 j = t)) 8
def ofP (v : TV) (i : Nat) : Nat := msk (fun j => (v.1 4).testBit j && (pp v j).testBit i) 8
def due (v : TV) : Nat := msk (fun j => (v.1 4).testBit j && decide (v.2 3 j ≤ v.1 5)) 8
theorem kinds_c {T : Ob} {v : TV} (hT : TC T v) (hv : TOK v) {t : Nat} (ht : t < 256) : f_X6_ofKind T (nI t) = some (nI (kinds v t)) := by
  have h8 := hv.2.2.2.1
  have key := loop_up (fun n (x : Int32 × Int32) => L_X6_ofKind_4 (nI t) T n x.1 x.2) (fun j (_ : Unit) => (nI (msk (fun j => decide (j < v.1 3) && decide (v.2 4 j = t)) j), nI j)) (fun _ u => u) (fun _ => nI (kinds v t)) 8 (fun j _ => True)
    (by
      intro n j u hj _
      refine ⟨?_, trivial⟩
      show L_X6_ofKind_4_step (nI t) T (L_X6_ofKind_4 (nI t) T n) _ _ = L_X6_ofKind_4 (nI t) T n _ _
      unfold L_X6_ofKind_4_step
      rw [hT.2.2.2.1, msk]
      by_cases hjn : j < v.1 3
      · have hjj := hT.2.2.2.2.2.2 j hjn
        have hok := hv.2.2.2.2.2.2 j hjn
        simp (disch := omega) only [bd_s, nm_s, l_0, l_1, l_2, l_3, l_4, l_5, l_6, l_7, l_8, l_9, l_10, l_16, l_20, l_32, l_44, l_48, l_57, l_59, l_60, l_99, l_100, l_107, l_108, l_112, l_255, l_256, l_300, l_9999, le_nI, lt_nI, eq_nI, cl_nI, ck_nI, gd_d, b2i_z, b2i_o, has_c, has_m, bit_c, within_c, nI_add, if_pos, if_neg, nI_or, nI_and, sh1_nI, pk_sub, gd_ckz, hjj.2.2.2.2.2]
        by_cases q2 : v.2 4 j = t <;> simp [q2, hjn]
      · simp (disch := omega) only [bd_s, nm_s, l_0, l_1, l_2, l_3, l_4, l_5, l_6, l_7, l_8, l_9, l_10, l_16, l_20, l_32, l_44, l_48, l_57, l_59, l_60, l_99, l_100, l_107, l_108, l_112, l_255, l_256, l_300, l_9999, le_nI, lt_nI, eq_nI, cl_nI, ck_nI, gd_d, b2i_z, b2i_o, has_c, has_m, bit_c, within_c, nI_add, if_pos, if_neg, nI_or, nI_and, sh1_nI, pk_sub, gd_ckz]
        simp [hjn])
    (by
      intro n u _
      show L_X6_ofKind_4_step (nI t) T (L_X6_ofKind_4 (nI t) T n) _ _ = _
      unfold L_X6_ofKind_4_step
      simp (disch := omega) only [bd_s, nm_s, l_0, l_1, l_2, l_3, l_4, l_5, l_6, l_7, l_8, l_9, l_10, l_16, l_20, l_32, l_44, l_48, l_57, l_59, l_60, l_99, l_100, l_107, l_108, l_112, l_255, l_256, l_300, l_9999, le_nI, lt_nI, eq_nI, cl_nI, ck_nI, gd_d, b2i_z, b2i_o, has_c, has_m, bit_c, within_c, nI_add, if_pos, if_neg, nI_or, nI_and, sh1_nI, pk_sub, gd_ckz]
      rfl) 8 0 () 512 rfl (by omega) trivial
  obtain ⟨_, h1, -⟩ := key
  have h2 : L_X6_ofKind_4 (nI t) T 512 (nI 0) (nI 0) = some (nI (kinds v t)) := h1
  unfold f_X6_ofKind
  simp only [bd_s, l_0, h2]
theorem ofP_c {T : Ob} {v : TV} (hT : TC T v) (hv : TOK v) {i : Nat} (hi : i < 8) : f_X6_ofPerson T (nI i) = some (nI (ofP v i)) := by
  have h8 := hv.2.2.2.1
  have htd := hv.td
  have key := loop_up (fun n (x : Int32 × Int32) => L_X6_ofPerson_4 (nI i) T n x.1 x.2) (fun j (_ : Unit) => (nI (msk (fun j => (v.1 4).testBit j && (pp v j).testBit i) j), nI j)) (fun _ u => u) (fun _ => nI (ofP v i)) 8 (fun j _ => True)
    (by
      intro n j u hj _
      refine ⟨?_, trivial⟩
      show L_X6_ofPerson_4_step (nI i) T (L_X6_ofPerson_4 (nI i) T n) _ _ = L_X6_ofPerson_4 (nI i) T n _ _
      unfold L_X6_ofPerson_4_step
      rw [hT.2.2.2.2.1, msk]
      simp (disch := omega) only [bd_s, nm_s, l_0, l_1, l_2, l_3, l_4, l_5, l_6, l_7, l_8, l_9, l_10, l_16, l_20, l_32, l_44, l_48, l_57, l_59, l_60, l_99, l_100, l_107, l_108, l_112, l_255, l_256, l_300, l_9999, le_nI, lt_nI, eq_nI, cl_nI, ck_nI, gd_d, b2i_z, b2i_o, has_c, has_m, bit_c, within_c, nI_add, if_pos, if_neg, nI_or, nI_and, sh1_nI, pk_sub, gd_ckz]
      cases q1 : (v.1 4).testBit j
      · simp
      · have hjn : j < v.1 3 := inK.tb (v := v) hv.2.2.2.2.1 q1
        have hjj := hT.2.2.2.2.2.2 j hjn
        have e2 := hv.pp hjn
        simp (disch := omega) only [bd_s, nm_s, l_0, l_1, l_2, l_3, l_4, l_5, l_6, l_7, l_8, l_9, l_10, l_16, l_20, l_32, l_44, l_48, l_57, l_59, l_60, l_99, l_100, l_107, l_108, l_112, l_255, l_256, l_300, l_9999, le_nI, lt_nI, eq_nI, cl_nI, ck_nI, gd_d, b2i_z, b2i_o, has_c, has_m, bit_c, within_c, nI_add, if_pos, if_neg, nI_or, nI_and, sh1_nI, pk_sub, gd_ckz, hjj.2.2.1]
        cases q2 : (pp v j).testBit i <;> simp)
    (by
      intro n u _
      show L_X6_ofPerson_4_step (nI i) T (L_X6_ofPerson_4 (nI i) T n) _ _ = _
      unfold L_X6_ofPerson_4_step
      simp (disch := omega) only [bd_s, nm_s, l_0, l_1, l_2, l_3, l_4, l_5, l_6, l_7, l_8, l_9, l_10, l_16, l_20, l_32, l_44, l_48, l_57, l_59, l_60, l_99, l_100, l_107, l_108, l_112, l_255, l_256, l_300, l_9999, le_nI, lt_nI, eq_nI, cl_nI, ck_nI, gd_d, b2i_z, b2i_o, has_c, has_m, bit_c, within_c, nI_add, if_pos, if_neg, nI_or, nI_and, sh1_nI, pk_sub, gd_ckz]
      rfl) 8 0 () 512 rfl (by omega) trivial
  obtain ⟨_, h1, -⟩ := key
  have h2 : L_X6_ofPerson_4 (nI i) T 512 (nI 0) (nI 0) = some (nI (ofP v i)) := h1
  unfold f_X6_ofPerson
  simp only [bd_s, l_0, h2]
theorem due_c {T : Ob} {v : TV} (hT : TC T v) (hv : TOK v) : f_X6_dueToday T = some (nI (due v)) := by
  have h8 := hv.2.2.2.1
  have htd := hv.td
  have hdy := hv.2.2.2.2.2.1
  have key := loop_up (fun n (x : Int32 × Int32) => L_X6_dueToday_4 T n x.1 x.2) (fun j (_ : Unit) => (nI (msk (fun j => (v.1 4).testBit j && decide (v.2 3 j ≤ v.1 5)) j), nI j)) (fun _ u => u) (fun _ => nI (due v)) 8 (fun j _ => True)
    (by
      intro n j u hj _
      refine ⟨?_, trivial⟩
      show L_X6_dueToday_4_step T (L_X6_dueToday_4 T n) _ _ = L_X6_dueToday_4 T n _ _
      unfold L_X6_dueToday_4_step
      rw [hT.2.2.2.2.1, hT.2.2.2.2.2.1, msk]
      simp (disch := omega) only [bd_s, nm_s, l_0, l_1, l_2, l_3, l_4, l_5, l_6, l_7, l_8, l_9, l_10, l_16, l_20, l_32, l_44, l_48, l_57, l_59, l_60, l_99, l_100, l_107, l_108, l_112, l_255, l_256, l_300, l_9999, le_nI, lt_nI, eq_nI, cl_nI, ck_nI, gd_d, b2i_z, b2i_o, has_c, has_m, bit_c, within_c, nI_add, if_pos, if_neg, nI_or, nI_and, sh1_nI, pk_sub, gd_ckz]
      cases q1 : (v.1 4).testBit j
      · simp
      · have hjn : j < v.1 3 := inK.tb (v := v) hv.2.2.2.2.1 q1
        have hjj := hT.2.2.2.2.2.2 j hjn
        have hok := hv.2.2.2.2.2.2 j hjn
        simp (disch := omega) only [bd_s, nm_s, l_0, l_1, l_2, l_3, l_4, l_5, l_6, l_7, l_8, l_9, l_10, l_16, l_20, l_32, l_44, l_48, l_57, l_59, l_60, l_99, l_100, l_107, l_108, l_112, l_255, l_256, l_300, l_9999, le_nI, lt_nI, eq_nI, cl_nI, ck_nI, gd_d, b2i_z, b2i_o, has_c, has_m, bit_c, within_c, nI_add, if_pos, if_neg, nI_or, nI_and, sh1_nI, pk_sub, gd_ckz, hjj.2.2.2.2.1]
        by_cases q2 : v.1 5 < v.2 3 j
        · have : ¬ v.2 3 j ≤ v.1 5 := by omega
          simp [q2, this]
        · have : v.2 3 j ≤ v.1 5 := by omega
          simp [q2, this])
    (by
      intro n u _
      show L_X6_dueToday_4_step T (L_X6_dueToday_4 T n) _ _ = _
      unfold L_X6_dueToday_4_step
      simp (disch := omega) only [bd_s, nm_s, l_0, l_1, l_2, l_3, l_4, l_5, l_6, l_7, l_8, l_9, l_10, l_16, l_20, l_32, l_44, l_48, l_57, l_59, l_60, l_99, l_100, l_107, l_108, l_112, l_255, l_256, l_300, l_9999, le_nI, lt_nI, eq_nI, cl_nI, ck_nI, gd_d, b2i_z, b2i_o, has_c, has_m, bit_c, within_c, nI_add, if_pos, if_neg, nI_or, nI_and, sh1_nI, pk_sub, gd_ckz]
      rfl) 8 0 () 512 rfl (by omega) trivial
  obtain ⟨_, h1, -⟩ := key
  have h2 : L_X6_dueToday_4 T 512 (nI 0) (nI 0) = some (nI (due v)) := h1
  unfold f_X6_dueToday
  simp only [bd_s, l_0, h2]
