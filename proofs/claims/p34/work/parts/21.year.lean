/-! ===== year (own text) ===== -/
def dq (v : TV) (x i : Nat) : Nat := (7919 * x + 6151 * i + 1) * (7919 * x + 6151 * i + 1) % 65521 % v.1 3
theorem dq_l {v : TV} {x i : Nat} (hx : x ≤ 9999) (hi : i ≤ 60) (h1 : 1 ≤ v.1 3) (h8 : v.1 3 ≤ 8) :
    let w := (((7919 : Int64) * (nI x).toInt64) + ((6151 : Int64) * (nI i).toInt64)) + (1 : Int64)
    (((w * w) - (w * w) / (65521 : Int64) * (65521 : Int64)) - ((w * w) - (w * w) / (65521 : Int64) * (65521 : Int64)) / ((nI (v.1 3)).toInt64) * ((nI (v.1 3)).toInt64)).toInt32 = nI (dq v x i) := by
  intro w
  have hw : w = lN (7919 * x + 6151 * i + 1) := by
    show (((7919 : Int64) * (nI x).toInt64) + ((6151 : Int64) * (nI i).toInt64)) + (1 : Int64) = _
    rw [nI_l (by omega), nI_l (by omega), show (7919 : Int64) = lN 7919 from rfl, show (6151 : Int64) = lN 6151 from rfl, show (1 : Int64) = lN 1 from rfl, lN_mul, lN_mul, lN_add, lN_add]
  have hb : 7919 * x + 6151 * i + 1 ≤ 79551142 := by omega
  have hbb : (7919 * x + 6151 * i + 1) * (7919 * x + 6151 * i + 1) ≤ 79551142 * 79551142 := Nat.mul_le_mul hb hb
  rw [hw, lN_mul, show (65521 : Int64) = lN 65521 from rfl, pk_lRem (by omega) (by omega) (by omega), nI_l (by omega), pk_lRem (by omega) (by omega) (by omega), lN_i]
  rfl
theorem dq_lt {v : TV} (x i : Nat) (h1 : 1 ≤ v.1 3) : dq v x i < v.1 3 := Nat.mod_lt _ h1
def trn (v : TV) (s q : Nat) : Nat := if s.testBit q then (if may v q s (v.1 5) (v.1 1) then sd s (2 ^ q) else s) else (if decide (sd (pp v q) (v.1 1) = 0) && decide (sd (v.2 2 q) s = 0) then s ||| 2 ^ q else s)
theorem trn_inK {v : TV} {s q : Nat} (hv : TOK v) (hq : q < v.1 3) (hs : inK v s) : inK v (trn v s q) := by
  have hs8 := hs.lt hv
  unfold trn
  split
  · split
    · exact (sd_sub hs8).inK hs
    · exact hs
  · split
    · exact Nat.or_lt_two_pow hs (Nat.pow_lt_pow_right (a := 2) (by omega) hq)
    · exact hs
def chg (v : TV) (s q : Nat) : Bool := if s.testBit q then may v q s (v.1 5) (v.1 1) else decide (sd (pp v q) (v.1 1) = 0) && decide (sd (v.2 2 q) s = 0)
theorem chg_ne {v : TV} {s q : Nat} (hs : s < 256) : (trn v s q = s) ↔ chg v s q = false := by
  unfold trn chg
  cases h1 : s.testBit q
  · cases h2 : (decide (sd (pp v q) (v.1 1) = 0) && decide (sd (v.2 2 q) s = 0))
    · simp
    · simp only [Bool.false_eq_true, if_false, if_true, Bool.true_eq_false, iff_false]
      intro e
      have : (s ||| 2 ^ q).testBit q = s.testBit q := by rw [e]
      rw [Nat.testBit_or, pw_tb, h1] at this
      simp at this
  · cases h2 : may v q s (v.1 5) (v.1 1)
    · simp
    · simp only [if_true, Bool.true_eq_false, iff_false]
      have := sd_bit_lt hs h1
      omega
theorem nI_xor (a b : Nat) : nI a ^^^ nI b = nI (a ^^^ b) := by
  apply Int32.toBitVec_inj.1
  show BitVec.ofNat 32 a ^^^ BitVec.ofNat 32 b = BitVec.ofNat 32 (a ^^^ b)
  apply BitVec.eq_of_getLsbD_eq
  intro i hi
  simp [hi]
theorem xor_set {s q : Nat} (h : s.testBit q = false) : s ^^^ 2 ^ q = s ||| 2 ^ q := by
  apply Nat.eq_of_testBit_eq
  intro j
  rw [Nat.testBit_xor, Nat.testBit_or, pw_tb]
  by_cases e : q = j
  · subst e; simp [h]
  · simp [e]
theorem xor_clr {s q : Nat} (hs : s < 256) (h : s.testBit q = true) : s ^^^ 2 ^ q = sd s (2 ^ q) := by
  apply Nat.eq_of_testBit_eq
  intro j
  rw [Nat.testBit_xor, sd_tb hs, pw_tb]
  by_cases e : q = j
  · subst e; simp [h]
  · simp [e]
theorem drawn_c {T o0 : Ob} {v : TV} (hT : TC T v) (hv : TOK v) (h1 : 1 ≤ v.1 3) {x i : Nat} (hx : x ≤ 9999) (hi : i ≤ 60) : f_X0_drawn o0 T (nI x) (nI i) = some (nI (dq v x i)) := by
  have h8 := hv.2.2.2.1
  unfold f_X0_drawn
  have e := dq_l (v := v) hx hi h1 h8
  have e2 : ¬ (nI (v.1 3)).toInt64 = (0 : Int64) := by
    rw [nI_l (by omega), show (0 : Int64) = lN 0 from rfl, lN_eq (by omega) (by omega)]; omega
  rw [hT.2.2.2.1]
  simp only [nm_s, l_1, if_pos (show nI 1 ≤ nI (v.1 3) from nI_le h1 (by omega)), decide_eq_true e2, gd_t]
  exact congrArg some e
theorem turned_c {T o0 : Ob} {v : TV} (hT : TC T v) (hv : TOK v) {s q : Nat} (hq : q < v.1 3) (hs : inK v s) : f_X0_turned o0 T (nI q) (nI s) = some (nI (trn v s q)) := by
  have h8 := hv.2.2.2.1
  have hs8 := hs.lt hv
  have hjj := hT.2.2.2.2.2.2 q hq
  have e1 := hv.th hq
  have e2 := hv.pp hq
  unfold f_X0_turned J_X0_turned_88 J_X0_turned_89
  rw [isKnot_n hT hv hq, hT.2.1]
  have t := today_c hT hv (k := q) (by omega) hs
  simp (disch := omega) only [bd_s, nm_s, l_0, l_1, l_2, l_3, l_4, l_5, l_6, l_7, l_8, l_9, l_10, l_16, l_20, l_32, l_44, l_48, l_57, l_59, l_60, l_99, l_100, l_107, l_108, l_112, l_255, l_256, l_300, l_9999, le_nI, lt_nI, eq_nI, cl_nI, ck_nI, gd_d, b2i_z, b2i_o, has_c, has_m, bit_c, within_c, nI_add, if_pos, if_neg, nI_or, nI_and, sh1_nI, pk_sub, gd_ckz, hjj.2.2.1, hjj.2.2.2.1, t, nI_andn']
  unfold trn
  cases q1 : s.testBit q
  · by_cases q2 : sd (pp v q) (v.1 1) = 0 <;> by_cases q3 : sd (v.2 2 q) s = 0 <;> simp [q2, q3, l_0, l_1, eq_nI]
  · cases q2 : may v q s (v.1 5) (v.1 1) <;> simp
theorem pp_in {v : TV} {q al : Nat} (h : pp v q < 256) : decide (sd (pp v q) al = 0) = (al.testBit (v.2 0 q) && al.testBit (v.2 1 q)) := by
  rw [Bool.eq_iff_iff, decide_eq_true_iff, sd_zero h, Bool.and_eq_true]
  constructor
  · intro hh
    exact ⟨hh _ (by rw [pp_tb]; simp), hh _ (by rw [pp_tb]; simp)⟩
  · rintro ⟨a, b⟩ j hj
    rw [pp_tb, Bool.or_eq_true, decide_eq_true_iff, decide_eq_true_iff] at hj
    rcases hj with rfl | rfl
    · exact a
    · exact b
theorem ystep_m {o : Ob} {v : TV} (hM : M0 o v) (hv : TOK v) (h1 : 1 ≤ v.1 3) {x i s : Nat} (hx : x ≤ 9999) (hi : i < 60) (hs : inK v s) (x2 x3 : Int32) (self : Int32 → Int32 → Int32 → Option (Int32 × Int32)) (c : Nat) (hx2 : ¬ x2 ≤ nI i) :
    L_X8_year_50_step (nI x) x2 x3 o self (nI s) (nI c) (nI i) = self (nI (trn v s (dq v x i))) (nI (if chg v s (dq v x i) then c + 1 else c)) (nI (i + 1)) := by
  have h8 := hv.2.2.2.1
  have hs8 := hs.lt hv
  have hq := dq_lt (v := v) x i h1
  have hjj := hM.2.2.2.2.2.2 _ hq
  have e1 := hv.th hq
  have e2 := hv.pp hq
  have hnp := hv.1
  have hok := hv.2.2.2.2.2.2 _ hq
  have hal := hv.al
  have hdy := hv.2.2.2.2.2.1
  have e := dq_l (v := v) hx (show i ≤ 60 by omega) h1 h8
  have e3 : ¬ (nI (v.1 3)).toInt64 = (0 : Int64) := by
    rw [nI_l (by omega), show (0 : Int64) = lN 0 from rfl, lN_eq (by omega) (by omega)]; omega
  unfold L_X8_year_50_step
  rw [if_neg hx2, hM.2.2.2.1]
  simp only [nm_s, decide_eq_true e3, gd_t, e]
  generalize dq v x i = q at *
  have fin : ∀ k : Bool, (s.testBit q = true → k = may v q s (v.1 5) (v.1 1)) → (s.testBit q = false → k = (decide (sd (pp v q) (v.1 1) = 0) && decide (sd (v.2 2 q) s = 0))) → J_X8_year_189l50 self (b2i k) (nI x) x2 x3 (nI s) (nI c) (nI i) (nI q) o = self (nI (trn v s q)) (nI (if chg v s q then c + 1 else c)) (nI (i + 1)) := by
    intro k k1 k2
    unfold J_X8_year_189l50 J_X8_year_206l50
    have hc : chg v s q = k := by
      unfold chg
      cases q1 : s.testBit q
      · rw [k2 q1]; rfl
      · rw [k1 q1]; rfl
    rw [hc]
    cases k
    · have ht : trn v s q = s := (chg_ne hs8).mpr hc
      simp (disch := omega) only [bd_s, nm_s, l_0, l_1, l_2, l_3, l_4, l_5, l_6, l_7, l_8, l_9, l_10, l_16, l_20, l_32, l_44, l_48, l_57, l_59, l_60, l_99, l_100, l_107, l_108, l_112, l_255, l_256, l_300, l_9999, le_nI, lt_nI, eq_nI, cl_nI, ck_nI, gd_d, b2i_z, b2i_o, has_c, has_m, bit_c, within_c, nI_add, if_pos, if_neg, nI_or, nI_and, sh1_nI, pk_sub, gd_ckz, nI_xor, if_true, ht]
      simp
    · have ht : trn v s q = s ^^^ 2 ^ q := by
        unfold trn
        cases q1 : s.testBit q
        · rw [← k2 q1, xor_set q1]; simp
        · rw [← k1 q1, xor_clr hs8 q1]; simp
      simp (disch := omega) only [bd_s, nm_s, l_0, l_1, l_2, l_3, l_4, l_5, l_6, l_7, l_8, l_9, l_10, l_16, l_20, l_32, l_44, l_48, l_57, l_59, l_60, l_99, l_100, l_107, l_108, l_112, l_255, l_256, l_300, l_9999, le_nI, lt_nI, eq_nI, cl_nI, ck_nI, gd_d, b2i_z, b2i_o, has_c, has_m, bit_c, within_c, nI_add, if_pos, if_neg, nI_or, nI_and, sh1_nI, pk_sub, gd_ckz, nI_xor, if_true, Bool.true_eq_false, if_false, ht]
  have mid : ∀ k : Bool, (s.testBit q = false → k = (decide (sd (pp v q) (v.1 1) = 0) && decide (sd (v.2 2 q) s = 0))) → J_X8_year_152l50 self (b2i k) (nI x) x2 x3 (nI s) (nI c) (nI i) (nI q) o = self (nI (trn v s q)) (nI (if chg v s q then c + 1 else c)) (nI (i + 1)) := by
    intro k hk
    unfold J_X8_year_152l50
    rw [hM.2.1, hM.2.2.2.2.2.1, may_m hM hv hq hs (by omega) (by omega), has_m (by omega) (by omega)]
    simp only [bd_s, l_0, b2i_z]
    cases q1 : s.testBit q
    · rw [if_pos rfl]
      exact fin k (fun h => by rw [q1] at h; cases h) hk
    · rw [if_neg (by simp)]
      exact fin _ (fun _ => rfl) (fun h => by rw [q1] at h; cases h)
  have m0 := mid false
  have m1 := mid true
  rw [pp_in (by omega)] at m0 m1
  unfold J_X8_year_151l50
  rw [hM.2.1]
  have es := sd_lt8 s e1
  simp (disch := omega) only [hjj.1, hjj.2.1, hjj.2.2.1, bd_s, nm_s, l_0, l_1, l_2, l_3, l_4, l_5, l_6, l_7, l_8, l_9, l_10, l_16, l_20, l_32, l_44, l_48, l_57, l_59, l_60, l_99, l_100, l_107, l_108, l_112, l_255, l_256, l_300, l_9999, le_nI, lt_nI, eq_nI, cl_nI, ck_nI, gd_d, b2i_z, b2i_o, has_c, has_m, bit_c, within_c, nI_add, if_pos, if_neg, nI_or, nI_and, sh1_nI, pk_sub, gd_ckz, nI_andn']
  rw [show b2i false = nI 0 from rfl] at m0
  rw [show b2i true = nI 1 from rfl] at m1
  cases a1 : (v.1 1).testBit (v.2 0 q)
  · rw [if_pos rfl]
    exact m0 (fun _ => by rw [a1]; rfl)
  · rw [if_neg (by simp)]
    cases a2 : (v.1 1).testBit (v.2 1 q)
    · rw [if_pos rfl]
      exact m0 (fun _ => by rw [a2]; simp)
    · rw [if_neg (by simp)]
      by_cases a3 : sd (v.2 2 q) s = 0
      · rw [if_pos a3]
        exact m1 (fun _ => by rw [a1, a2, decide_eq_true a3]; rfl)
      · rw [if_neg a3]
        exact m0 (fun _ => by rw [decide_eq_false a3]; simp)
theorem ystep_c {X : Nat → Ob} {v : TV} (hT : TC (X 2) v) (hv : TOK v) (h1 : 1 ≤ v.1 3) {x i s : Nat} (hx : x ≤ 9999) (hi : i < 60) (hs : inK v s) (x2 x3 : Int32) (self : Int32 → Int32 → Int32 → Option (Int32 × Int32)) (c : Nat) (hx2 : ¬ x2 ≤ nI i) :
    L_X7_year_48_step (nI x) x2 x3 X self (nI s) (nI c) (nI i) = self (nI (trn v s (dq v x i))) (nI (if chg v s (dq v x i) then c + 1 else c)) (nI (i + 1)) := by
  have hs8 := hs.lt hv
  have hq := dq_lt (v := v) x i h1
  have ht8 := (trn_inK hv hq hs).lt hv
  unfold L_X7_year_48_step
  rw [if_neg hx2, drawn_c hT hv h1 hx (by omega), bd_s, turned_c hT hv hq hs, bd_s]
  simp (disch := omega) only [bd_s, nm_s, l_0, l_1, l_2, l_3, l_4, l_5, l_6, l_7, l_8, l_9, l_10, l_16, l_20, l_32, l_44, l_48, l_57, l_59, l_60, l_99, l_100, l_107, l_108, l_112, l_255, l_256, l_300, l_9999, le_nI, lt_nI, eq_nI, cl_nI, ck_nI, gd_d, b2i_z, b2i_o, has_c, has_m, bit_c, within_c, nI_add, if_pos, if_neg, nI_or, nI_and, sh1_nI, pk_sub, gd_ckz]
  have := chg_ne (v := v) (q := dq v x i) hs8
  cases q1 : chg v s (dq v x i)
  · rw [if_pos (this.mpr q1)]; rfl
  · have hne : ¬ trn v s (dq v x i) = s := fun h => by rw [this.mp h] at q1; cases q1
    rw [if_neg hne]; rfl
theorem year_both {X : Nat → Ob} {o : Ob} {v : TV} (hT : TC (X 2) v) (hM : M0 o v) (hv : TOK v) (h1 : 1 ≤ v.1 3) (x y w : Int32) : ∃ r, f_X7_year X x y w = some r ∧ f_X8_year o x y w = some r := by
  unfold f_X7_year f_X8_year
  rw [inb_lit (lo := 0) (hi := 9999) (by omega) (by omega) 0 9999 (by decide) (by decide), bd_s, inb_lit (lo := 1) (hi := 60) (by omega) (by omega) 1 60 (by decide) (by decide), bd_s, inb_lit (lo := 0) (hi := 1) (by omega) (by omega) 0 1 (by decide) (by decide), bd_s]
  have c0 : (x < (0 : Int32)) = ¬ ((0 : Int) ≤ x.toInt) := by
    rw [Int32.lt_iff_toInt_lt, show (0 : Int32).toInt = 0 from by decide]; apply propext; omega
  have c1 : ((9999 : Int32) < x) = ¬ (x.toInt ≤ 9999) := by
    rw [Int32.lt_iff_toInt_lt, show (9999 : Int32).toInt = 9999 from by decide]; apply propext; omega
  have c2 : (y < (1 : Int32)) = ¬ ((1 : Int) ≤ y.toInt) := by
    rw [Int32.lt_iff_toInt_lt, show (1 : Int32).toInt = 1 from by decide]; apply propext; omega
  have c3 : ((60 : Int32) < y) = ¬ (y.toInt ≤ 60) := by
    rw [Int32.lt_iff_toInt_lt, show (60 : Int32).toInt = 60 from by decide]; apply propext; omega
  have c4 : (w < (0 : Int32)) = ¬ ((0 : Int) ≤ w.toInt) := by
    rw [Int32.lt_iff_toInt_lt, show (0 : Int32).toInt = 0 from by decide]; apply propext; omega
  have c5 : (w ≤ (1 : Int32)) = (w.toInt ≤ 1) := by
    rw [Int32.le_iff_toInt_le, show (1 : Int32).toInt = 1 from by decide]
  simp only [c0, c1, c2, c3, c4, c5]
  by_cases q1 : (0 : Int) ≤ x.toInt
  · by_cases q2 : x.toInt ≤ 9999
    · by_cases q3 : (1 : Int) ≤ y.toInt
      · by_cases q4 : y.toInt ≤ 60
        · by_cases q5 : (0 : Int) ≤ w.toInt
          · by_cases q6 : w.toInt ≤ 1
            · obtain ⟨n, hn, rfl⟩ : ∃ m, m < 2 ^ 31 ∧ x = nI m := nI_of (by rw [Int32.lt_iff_toInt_lt, show (0 : Int32).toInt = 0 from by decide]; omega)
              obtain ⟨m, hm, rfl⟩ : ∃ m, m < 2 ^ 31 ∧ y = nI m := nI_of (by rw [Int32.lt_iff_toInt_lt, show (0 : Int32).toInt = 0 from by decide]; omega)
              have en := nI_toInt hn
              have em := nI_toInt hm
              have both : ∃ s c : Nat, L_X7_year_48 (nI n) (nI m) w X 512 (nI (v.1 4)) (nI 0) (nI 0) = some (nI s, nI c) ∧ L_X8_year_50 (nI n) (nI m) w o 512 (nI (v.1 4)) (nI 0) (nI 0) = some (nI s, nI c) := by
                have step : ∀ d i s c f, i + d = m → d < f → inK v s → ∃ s' c' : Nat, L_X7_year_48 (nI n) (nI m) w X f (nI s) (nI c) (nI i) = some (nI s', nI c') ∧ L_X8_year_50 (nI n) (nI m) w o f (nI s) (nI c) (nI i) = some (nI s', nI c') := by
                  intro d
                  induction d with
                  | zero =>
                    intro i s c f h2 h3 hs
                    obtain ⟨f, rfl⟩ : ∃ k, f = k + 1 := ⟨f - 1, by omega⟩
                    have : i = m := by omega
                    subst this
                    refine ⟨s, c, ?_, ?_⟩
                    · show L_X7_year_48_step (nI n) (nI i) w X (L_X7_year_48 (nI n) (nI i) w X f) (nI s) (nI c) (nI i) = _
                      unfold L_X7_year_48_step
                      rw [if_pos (nI_le (Nat.le_refl _) (by omega))]
                    · show L_X8_year_50_step (nI n) (nI i) w o (L_X8_year_50 (nI n) (nI i) w o f) (nI s) (nI c) (nI i) = _
                      unfold L_X8_year_50_step
                      rw [if_pos (nI_le (Nat.le_refl _) (by omega))]
                  | succ d ih =>
                    intro i s c f h2 h3 hs
                    obtain ⟨f, rfl⟩ : ∃ k, f = k + 1 := ⟨f - 1, by omega⟩
                    have hne : ¬ nI m ≤ nI i := by rw [nI_leI (by omega) (by omega)]; omega
                    have a := ystep_c hT hv h1 (x := n) (i := i) (s := s) (by omega) (by omega) hs (nI m) w (L_X7_year_48 (nI n) (nI m) w X f) c hne
                    have b := ystep_m hM hv h1 (x := n) (i := i) (s := s) (by omega) (by omega) hs (nI m) w (L_X8_year_50 (nI n) (nI m) w o f) c hne
                    obtain ⟨s', c', r1, r2⟩ := ih (i + 1) (trn v s (dq v n i)) (if chg v s (dq v n i) then c + 1 else c) f (by omega) (by omega) (trn_inK hv (dq_lt n i h1) hs)
                    exact ⟨s', c', a.trans r1, b.trans r2⟩
                exact step m 0 (v.1 4) 0 512 (by omega) (by omega) hv.2.2.2.2.1
              obtain ⟨s, c, r1, r2⟩ := both
              simp only [q1, q2, q3, q4, q5, q6, not_true, if_false, if_true, decide_true, Bool.and_true, hT.2.2.2.2.1, hM.2.2.2.2.1, nm_s, l_0, r1, r2, bd_s, b2i_z, Bool.true_eq_false, show (((0 : Nat) : Int) ≤ (nI n).toInt) = True from by simp; omega, show ((nI n).toInt ≤ ((9999 : Nat) : Int)) = True from by simp; omega, show (((1 : Nat) : Int) ≤ (nI m).toInt) = True from by simp; omega, show ((nI m).toInt ≤ ((60 : Nat) : Int)) = True from by simp; omega, show (((0 : Nat) : Int) ≤ w.toInt) = True from by simp; omega, show (w.toInt ≤ ((1 : Nat) : Int)) = True from by simp; omega]
              by_cases q7 : w = nI 0
              · exact ⟨nI s, by simp only [q7, if_true], by simp only [q7, if_true]⟩
              · exact ⟨nI c, by simp only [q7, if_false], by simp only [q7, if_false]⟩
            · refine ⟨(-1 : Int32), ?_, ?_⟩ <;> simp [q1, q2, q3, q4, q5, q6, b2i]
          · refine ⟨(-1 : Int32), ?_, ?_⟩ <;> simp [q1, q2, q3, q4, q5, b2i]
        · refine ⟨(-1 : Int32), ?_, ?_⟩ <;> simp [q1, q2, q3, q4, b2i]
      · refine ⟨(-1 : Int32), ?_, ?_⟩ <;> simp [q1, q2, q3, b2i]
    · refine ⟨(-1 : Int32), ?_, ?_⟩ <;> simp [q1, q2, b2i]
  · refine ⟨(-1 : Int32), ?_, ?_⟩ <;> simp [q1, b2i]
