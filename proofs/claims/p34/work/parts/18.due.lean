/-! ===== loosen, pay, for ever, frees on both sides (own text) ===== -/
theorem nIn4 {a : Nat} (h : a < 2147483648) : ¬ (nI a = (-4 : Int32)) := by
  intro e
  have h1 := nI_toInt h
  rw [e] at h1
  have h2 : (-4 : Int32).toInt = -4 := by decide
  omega
theorem today_c {T : Ob} {v : TV} (hT : TC T v) (hv : TOK v) {k s : Nat} (hk : k < 8) (hs : inK v s) : f_X6_mayToday T (nI k) (nI s) = some (b2i (may v k s (v.1 5) (v.1 1))) := by
  have hal := hv.al
  have hdy := hv.2.2.2.2.2.1
  unfold f_X6_mayToday
  rw [hT.2.2.2.2.2.1, hT.2.1]
  by_cases q : k < v.1 3
  · rw [may_c hT hv q hs (by omega) (by omega), bd_s, gd_ckz]
  · rw [may_out hT hv _ _ _ q (by omega), bd_s, gd_ckz]
    have : s.testBit k = false := by
      cases q2 : s.testBit k
      · rfl
      · exact absurd (hs.tb q2) q
    unfold may; rw [this]; rfl
def encO : Option Nat → Int32
  | none => -4
  | some k => nI k
theorem low_c {T o0 : Ob} {v : TV} (hT : TC T v) (hv : TOK v) {A s : Nat} (hA : A < 256) (hs : inK v s) : f_X0_lowestThatMay o0 T (nI A &&& nI s) (nI s) = some (encO (fnd (cand v A (v.1 5) (v.1 1) s) 8 0)) := by
  have hsl := hs.lt hv
  have hAs : A &&& s < 256 := and_lt8 _ hA
  have main : ∀ (d k n : Nat), k + d = 8 → d < n → L_X0_lowestThatMay_2 (nI (A &&& s)) (nI s) o0 T n (nI k) = some (match fnd (cand v A (v.1 5) (v.1 1) s) d k with | none => (1, nI 8) | some r => (0, nI r)) := by
    intro d
    induction d with
    | zero =>
      intro k n h1 h2
      obtain ⟨n, rfl⟩ : ∃ i, n = i + 1 := ⟨n - 1, by omega⟩
      have : k = 8 := by omega
      subst this
      show L_X0_lowestThatMay_2_step (nI (A &&& s)) (nI s) o0 T (L_X0_lowestThatMay_2 (nI (A &&& s)) (nI s) o0 T n) (nI 8) = _
      unfold L_X0_lowestThatMay_2_step
      simp (disch := omega) only [bd_s, nm_s, l_0, l_1, l_2, l_3, l_4, l_5, l_6, l_7, l_8, l_9, l_10, l_16, l_20, l_32, l_44, l_48, l_57, l_59, l_60, l_99, l_100, l_107, l_108, l_112, l_255, l_256, l_300, l_9999, le_nI, lt_nI, eq_nI, cl_nI, ck_nI, gd_d, b2i_z, b2i_o, has_c, has_m, bit_c, within_c, nI_add, if_pos, if_neg, nI_or, nI_and, sh1_nI, pk_sub, gd_ckz]
      rfl
    | succ d ih =>
      intro k n h1 h2
      obtain ⟨n, rfl⟩ : ∃ i, n = i + 1 := ⟨n - 1, by omega⟩
      show L_X0_lowestThatMay_2_step (nI (A &&& s)) (nI s) o0 T (L_X0_lowestThatMay_2 (nI (A &&& s)) (nI s) o0 T n) (nI k) = _
      unfold L_X0_lowestThatMay_2_step
      rw [fnd]
      have ih1 := ih (k + 1) n (by omega) (by omega)
      have hc : cand v A (v.1 5) (v.1 1) s k = (A.testBit k && may v k s (v.1 5) (v.1 1)) := rfl
      simp (disch := omega) only [bd_s, nm_s, l_0, l_1, l_2, l_3, l_4, l_5, l_6, l_7, l_8, l_9, l_10, l_16, l_20, l_32, l_44, l_48, l_57, l_59, l_60, l_99, l_100, l_107, l_108, l_112, l_255, l_256, l_300, l_9999, le_nI, lt_nI, eq_nI, cl_nI, ck_nI, gd_d, b2i_z, b2i_o, has_c, has_m, bit_c, within_c, nI_add, if_pos, if_neg, nI_or, nI_and, sh1_nI, pk_sub, gd_ckz, today_c hT hv (k := k) (s := s) (by omega) hs, hc]
      rw [Nat.testBit_and]
      cases q1 : A.testBit k
      · simp [ih1]
      · cases q2 : may v k s (v.1 5) (v.1 1)
        · cases q3 : s.testBit k <;> simp [ih1]
        · have := ((may_t hsl).mp q2).1
          simp [this]
  unfold f_X0_lowestThatMay
  rw [nI_and, l_0, main 8 0 512 rfl (by omega), bd_s]
  cases fnd (cand v A (v.1 5) (v.1 1) s) 8 0 with
  | none => rfl
  | some r => rfl
def encI (L : List Nat) (i : Nat) : Int32 := encO L[i]?
theorem turn_c {T o0 : Ob} {v : TV} (hT : TC T v) (hv : TOK v) {A : Nat} (hA : A < 256) {i : Nat} (hi : i < 2147483648) : f_X0_inTurn o0 T (nI A) (nI i) = some (encI (seqU v A (v.1 5) (v.1 1) 9 (v.1 4)) i) := by
  have htd := hv.td
  have main : ∀ (d j s m n : Nat), j + d = 8 → d < n → inK v s → pc s + j ≤ 8 → pc s < m → j ≤ i → ∃ z, L_X0_inTurn_11 (nI A) (nI i) o0 T n (nI s) (nI j) = some z ∧ (if z.1 = 0 then z.2 else -4) = encO (seqU v A (v.1 5) (v.1 1) m s)[i - j]? := by
    intro d
    induction d with
    | zero =>
      intro j s m n h1 h2 hs h3 h4 h5
      obtain ⟨n, rfl⟩ : ∃ i, n = i + 1 := ⟨n - 1, by omega⟩
      have hz := pc_0 s (hs.lt hv) (by omega)
      subst hz
      refine ⟨(1, 0), ?_, ?_⟩
      · show L_X0_inTurn_11_step (nI A) (nI i) o0 T (L_X0_inTurn_11 (nI A) (nI i) o0 T n) _ _ = _
        unfold L_X0_inTurn_11_step
        rw [if_pos (by rw [l_8, nI_leI (by omega) (by omega)]; omega)]
      · have : seqU v A (v.1 5) (v.1 1) m 0 = [] := by
          cases m with
          | zero => rfl
          | succ m =>
            rw [seqU]
            have : fnd (cand v A (v.1 5) (v.1 1) 0) 8 0 = none := by
              cases hf : fnd (cand v A (v.1 5) (v.1 1) 0) 8 0 with
              | none => rfl
              | some k =>
                obtain ⟨a, -, -⟩ := fnd_some 8 0 k hf
                unfold cand may at a
                simp at a
            rw [this]
        rw [this]; rfl
    | succ d ih =>
      intro j s m n h1 h2 hs h3 h4 h5
      obtain ⟨n, rfl⟩ : ∃ i, n = i + 1 := ⟨n - 1, by omega⟩
      obtain ⟨m, rfl⟩ : ∃ i, m = i + 1 := ⟨m - 1, by omega⟩
      have hsl := hs.lt hv
      have hst : L_X0_inTurn_11 (nI A) (nI i) o0 T (n + 1) (nI s) (nI j) = L_X0_inTurn_11_step (nI A) (nI i) o0 T (L_X0_inTurn_11 (nI A) (nI i) o0 T n) (nI s) (nI j) := rfl
      rw [hst, seqU]
      unfold L_X0_inTurn_11_step
      rw [if_neg (by rw [l_8, nI_leI (by omega) (by omega)]; omega), low_c hT hv hA hs, bd_s]
      cases hf : fnd (cand v A (v.1 5) (v.1 1) s) 8 0 with
      | none => exact ⟨(0, -4), by rw [show encO none = (-4 : Int32) from rfl, if_pos rfl], by simp [encO]⟩
      | some k =>
        obtain ⟨a, b, c⟩ := fnd_some 8 0 k hf
        unfold cand at a
        rw [Bool.and_eq_true] at a
        have hm := (may_t hsl).mp a.2
        have hps := pc_sd s hsl k (by omega) hm.1
        rw [show encO (some k) = nI k from rfl, if_neg (nIn4 (by omega))]
        by_cases q : j = i
        · subst q
          exact ⟨(0, nI k), by rw [if_pos rfl], by simp [encO]⟩
        · rw [if_neg (fun e => q ((nI_eq (by omega) (by omega)).mp e)), bit_c (by omega), bd_s, nI_andn _ hsl, nm_s, l_1, nI_add, nm_s]
          obtain ⟨z, z1, z2⟩ := ih (j + 1) (sd s (2 ^ k)) m n (by omega) (by omega) ((sd_sub hsl).inK hs) (by omega) (by omega) (by omega)
          refine ⟨z, z1, ?_⟩
          rw [z2]
          show _ = encO (k :: seqU v A (v.1 5) (v.1 1) m (sd s (2 ^ k)))[i - j]?
          rw [show i - j = (i - (j + 1)) + 1 by omega, List.getElem?_cons_succ]
  have h0 := pc_8 (v.1 4) htd
  obtain ⟨z, z1, z2⟩ := main 8 0 (v.1 4) 9 512 rfl (by omega) hv.2.2.2.2.1 (by omega) (by omega) (by omega)
  unfold f_X0_inTurn
  rw [hT.2.2.2.2.1, nm_s, l_0, z1, bd_s]
  by_cases q : z.1 = 0
  · rw [if_pos q] at z2 ⊢
    rw [z2]; rfl
  · rw [if_neg q] at z2 ⊢
    rw [z2]; rfl
theorem due_m {o : Ob} {v : TV} (hM : M0 o v) (hv : TOK v) (x1 : Int32) : L_X8_pay_11 x1 o 512 (nI 0) (nI 0) = some (nI (due v)) := by
  have h8 := hv.2.2.2.1
  have htd := hv.td
  have hdy := hv.2.2.2.2.2.1
  have key := loop_up (fun n (x : Int32 × Int32) => L_X8_pay_11 x1 o n x.1 x.2) (fun j (_ : Unit) => (nI (msk (fun j => (v.1 4).testBit j && decide (v.2 3 j ≤ v.1 5)) j), nI j)) (fun _ u => u) (fun _ => nI (msk (fun j => (v.1 4).testBit j && decide (v.2 3 j ≤ v.1 5)) (v.1 3))) (v.1 3) (fun j _ => True)
    (by
      intro n j u hj _
      refine ⟨?_, trivial⟩
      show L_X8_pay_11_step x1 o (L_X8_pay_11 x1 o n) _ _ = L_X8_pay_11 x1 o n _ _
      unfold L_X8_pay_11_step
      have hjj := hM.2.2.2.2.2.2 j hj
      have hok := hv.2.2.2.2.2.2 j hj
      rw [hM.2.2.2.1, hM.2.2.2.2.1, hM.2.2.2.2.2.1, msk]
      simp (disch := omega) only [bd_s, nm_s, l_0, l_1, l_2, l_3, l_4, l_5, l_6, l_7, l_8, l_9, l_10, l_16, l_20, l_32, l_44, l_48, l_57, l_59, l_60, l_99, l_100, l_107, l_108, l_112, l_255, l_256, l_300, l_9999, le_nI, lt_nI, eq_nI, cl_nI, ck_nI, gd_d, b2i_z, b2i_o, has_c, has_m, bit_c, within_c, nI_add, if_pos, if_neg, nI_or, nI_and, sh1_nI, pk_sub, gd_ckz, hjj.2.2.2.1, nI_or0]
      cases q1 : (v.1 4).testBit j
      · simp
      · by_cases q2 : v.1 5 < v.2 3 j
        · have : ¬ v.2 3 j ≤ v.1 5 := by omega
          simp [q2, this]
        · have : v.2 3 j ≤ v.1 5 := by omega
          simp [q2, this])
    (by
      intro n u _
      show L_X8_pay_11_step x1 o (L_X8_pay_11 x1 o n) _ _ = _
      unfold L_X8_pay_11_step
      rw [hM.2.2.2.1]
      simp (disch := omega) only [bd_s, nm_s, l_0, l_1, l_2, l_3, l_4, l_5, l_6, l_7, l_8, l_9, l_10, l_16, l_20, l_32, l_44, l_48, l_57, l_59, l_60, l_99, l_100, l_107, l_108, l_112, l_255, l_256, l_300, l_9999, le_nI, lt_nI, eq_nI, cl_nI, ck_nI, gd_d, b2i_z, b2i_o, has_c, has_m, bit_c, within_c, nI_add, if_pos, if_neg, nI_or, nI_and, sh1_nI, pk_sub, gd_ckz]) (v.1 3) 0 () 512 (by omega) (by omega) trivial
  obtain ⟨_, h1, -⟩ := key
  have e : msk (fun j => (v.1 4).testBit j && decide (v.2 3 j ≤ v.1 5)) (v.1 3) = due v := by
    refine ext8 (msk_8 _ h8) (msk_8 _ (by omega)) (fun j hj => ?_)
    unfold due
    rw [msk_tb, msk_tb]
    cases q : (v.1 4).testBit j
    · simp
    · have : j < v.1 3 := inK.tb (v := v) hv.2.2.2.2.1 q
      simp [this, hj]
  rw [← e]
  exact h1
theorem due_sub (v : TV) : Sub (due v) (v.1 4) := fun j hj => by
  unfold due at hj
  rw [msk_tb] at hj
  simp at hj
  exact hj.2.1
theorem neg_or_nat {x : Int32} (h : (-1 : Int32) ≤ x) (h2 : ¬ x = -1) : ∃ j, j < 2147483648 ∧ x = nI j := by
  have h3 : -1 ≤ x.toInt := by
    have := Int32.le_iff_toInt_le.mp h
    have e : (-1 : Int32).toInt = -1 := by decide
    omega
  have h4 : x.toInt ≠ -1 := fun e => h2 (Int32.toInt_inj.mp (by rw [e]; decide))
  have h5 : ¬ x < 0 := by
    rw [Int32.lt_iff_toInt_lt]
    have e : (0 : Int32).toInt = 0 := by decide
    omega
  obtain ⟨j, h6, h7⟩ := nI_of h5
  exact ⟨j, by omega, h7⟩
theorem pay_both {X : Nat → Ob} {o : Ob} {v : TV} (hT : TC (X 2) v) (hM : M0 o v) (hv : TOK v) (x : Int32) : ∃ r o', f_X7_pay X x = some r ∧ f_X8_pay o x = some (r, o') ∧ Same o o' := by
  have htd := hv.td
  have hal := hv.al
  have hdy := hv.2.2.2.2.2.1
  unfold f_X7_pay f_X8_pay
  by_cases hx : (-1 : Int32) ≤ x
  · rw [if_pos hx, if_pos hx, due_c hT hv, l_0, due_m hM hv]
    obtain ⟨G, c, b, o', g1, c1, b1, s1, g2, c2, c3, h1, h2⟩ := least_both (o0 := X 8) hT hM hv (due_sub v)
    have hcl := c2.lt htd
    have hdl := (due_sub v).lt htd
    have hpc := pc_8 c hcl
    simp only [bd_s, g1, b1, nm_s, nI_and]
    have hdG : due v &&& G < 256 := and_lt8 _ hdl
    by_cases q : due v &&& G = 0
    · obtain ⟨hb, hgood⟩ := h1 q
      subst hb
      have hM2 := s1.m0 hM
      obtain ⟨o2, u1, u2, u3⟩ := undoSet_m hM2 hv (S := c) (dy := v.1 5) (al := v.1 1) hcl (by omega) (by omega)
      have hp0 : ¬ (nI c < (0 : Int32)) := nI_pos (by omega)
      rw [q, if_pos (show nI 0 = nI 0 from rfl), c1, show encB (some c) = nI c from rfl, if_pos (show nI 0 ≤ nI c from nI_pos' (by omega)), hM2.2.1, hM2.2.2.2.2.2.1, u1]
      simp only [bd_s, bits_c c hcl, bits_m c hcl]
      by_cases q2 : x = -1
      · rw [if_pos q2]
        subst q2
        rw [if_neg (by decide)]
        exact ⟨_, o2, rfl, rfl, s1.tr u2⟩
      · obtain ⟨j, hj, rfl⟩ := neg_or_nat hx q2
        rw [if_neg q2, if_pos (show nI 0 ≤ nI j from nI_pos' hj), turn_c hT hv hcl hj]
        unfold Good at hgood
        by_cases q3 : pc c ≤ j
        · rw [if_pos ((nI_leI (by omega) hj).mpr q3)]
          refine ⟨_, o2, rfl, ?_, s1.tr u2⟩
          unfold encI
          rw [List.getElem?_eq_none (by omega)]; rfl
        · rw [if_neg (fun e => q3 ((nI_leI (by omega) hj).mp e))]
          have hlt : j < (seqU v c (v.1 5) (v.1 1) 9 (v.1 4)).length := by omega
          have hg := List.getElem?_eq_getElem hlt
          rw [ck_nI hj, gd_d (by omega), cl_nI hj, u3 j _ hg]
          refine ⟨_, o2, rfl, ?_, s1.tr u2⟩
          unfold encI
          rw [hg]; rfl
    · have hb := h2 q
      subst hb
      rw [if_neg (show ¬ (nI (due v &&& G) = nI 0) from fun e => q ((nI_eq (by omega) (by omega)).mp e)), if_neg (by decide)]
      exact ⟨_, o', rfl, rfl, s1⟩
  · rw [if_neg hx, if_neg hx]
    exact ⟨_, o, rfl, rfl, Same.rf o⟩
theorem loosen_both {X : Nat → Ob} {o : Ob} {v : TV} (hT : TC (X 2) v) (hM : M0 o v) (hv : TOK v) (x : Int32) : ∃ r o', f_X7_loosen X x = some r ∧ f_X8_loosen o x = some (r, o') ∧ Same o o' := by
  have htd := hv.td
  have h8 := hv.2.2.2.1
  unfold f_X7_loosen f_X8_loosen
  rw [isKnot_c hT hv, there_m hM hv, l_0]
  simp only [bd_s, b2i_z]
  cases q0 : inb x (v.1 3)
  · exact ⟨_, o, rfl, rfl, Same.rf o⟩
  · obtain ⟨k, hk, rfl⟩ := inb_of (by omega) q0
    have hk8 : k < 8 := by omega
    rw [hT.2.2.2.2.1, hM.2.2.2.2.1, has_c (by omega) (by omega), has_m (by omega) (by omega)]
    simp only [bd_s, b2i_z, Bool.true_eq_false, if_false]
    cases q1 : (v.1 4).testBit k
    · exact ⟨_, o, rfl, rfl, Same.rf o⟩
    · have hpk := pw_lt8 hk8
      have hsub : Sub (2 ^ k) (v.1 4) := fun j hj => by
        rw [pw_tb] at hj
        have := of_decide_eq_true hj
        subst this; exact q1
      obtain ⟨G, c, b, o', g1, c1, b1, s1, g2, c2, c3, h1, h2⟩ := least_both (o0 := X 8) hT hM hv hsub
      have hcl := c2.lt htd
      rw [g1, l_1, sh1_nI (by omega), b1]
      simp only [bd_s, nm_s, Bool.true_eq_false, if_false]
      rw [has_c (by omega) (by omega)]
      simp only [bd_s, b2i_z]
      have hand : (2 ^ k &&& G = 0) ↔ G.testBit k = false := by
        rw [z_tb]
        constructor
        · intro h
          have := h k
          rw [Nat.testBit_and, pw_tb] at this
          simpa using this
        · intro h j
          rw [Nat.testBit_and, pw_tb]
          by_cases e : k = j
          · subst e; simp [h]
          · simp [e]
      cases q2 : G.testBit k
      · obtain ⟨hb, -⟩ := h1 (hand.mpr q2)
        subst hb
        rw [if_pos rfl, bit_c (by omega), bd_s, c1, bd_s, bd_s, show encB (some c) = nI c from rfl, if_pos (show nI 0 ≤ nI c from nI_pos' (by omega))]
        exact ⟨_, o', rfl, rfl, s1⟩
      · have hb := h2 (fun e => by rw [hand.mp e] at q2; cases q2)
        subst hb
        rw [if_neg (by decide), if_neg (by decide)]
        exact ⟨_, o', rfl, rfl, s1⟩
theorem ever_both {T o0 o : Ob} {v : TV} (hT : TC T v) (hM : M0 o v) (hv : TOK v) {al : Nat} (ha : al < 256) : ∃ s o', f_X0_stuckForEver o0 T (nI al) = some (nI s) ∧ f_X8_everBy o (nI al) = some (nI s, o') ∧ Same o o' ∧ s < 256 := by
  obtain ⟨s, o', e1, e2, e3, e4⟩ := ever_m hM hv ha
  obtain ⟨t, f1, f2, f3⟩ := stuck_c (o0 := o0) hT hv (dy := 99) (al := al) (by omega) ha
  have : s = t := Inv.uniq e3 e4 f2 f3
  subst this
  refine ⟨s, o', ?_, e1, e2, e3.1.lt hv.td⟩
  unfold f_X0_stuckForEver
  rw [l_99, f1]; rfl
theorem isPerson_c {T : Ob} {v : TV} (hT : TC T v) (hv : TOK v) (x : Int32) : f_X6_isPerson T x = some (b2i (inb x (v.1 0))) := by
  have h6 := hv.1
  unfold f_X6_isPerson
  rw [hT.1]
  by_cases h : x < 0
  · rw [inb_neg h, if_pos h]; rfl
  · obtain ⟨j, hj, rfl⟩ := nI_of h
    rw [if_neg h, inb_nI (by omega)]
    simp (disch := omega) only [le_nI]
    by_cases h2 : v.1 0 ≤ j
    · have : ¬ j < v.1 0 := by omega
      simp [h2, this]; rfl
    · have : j < v.1 0 := by omega
      simp [h2, this]; rfl
theorem forEver_both {X : Nat → Ob} {o : Ob} {v : TV} (hT : TC (X 2) v) (hM : M0 o v) (hv : TOK v) : ∃ r o', f_X7_forEver X = some r ∧ f_X8_forEver o = some (r, o') ∧ Same o o' := by
  have hal := hv.al
  obtain ⟨s, o', e1, e2, e3, -⟩ := ever_both (o0 := X 8) hT hM hv (al := v.1 1) (by omega)
  refine ⟨nI s, o', ?_, ?_, e3⟩
  · unfold f_X7_forEver; rw [hT.2.1, e1]; rfl
  · unfold f_X8_forEver; rw [hM.2.1, e2]; rfl
theorem frees_both {X : Nat → Ob} {o : Ob} {v : TV} (hT : TC (X 2) v) (hM : M0 o v) (hv : TOK v) (x : Int32) : ∃ r o', f_X7_frees X x = some r ∧ f_X8_frees o x = some (r, o') ∧ Same o o' := by
  have hal := hv.al
  have h6 := hv.1
  unfold f_X7_frees f_X8_frees
  rw [isPerson_c hT hv, person_m hM hv, l_0]
  simp only [bd_s, b2i_z]
  cases q0 : inb x (v.1 0)
  · exact ⟨_, o, rfl, rfl, Same.rf o⟩
  · obtain ⟨i, hi, rfl⟩ := inb_of (by omega) q0
    have hp : 2 ^ i < 64 := Nat.pow_lt_pow_right (a := 2) (n := 6) (by omega) (by omega)
    have ho : v.1 1 ||| 2 ^ i < 256 := or_lt8 (by omega) (by omega)
    obtain ⟨s, o', e1, e2, e3, e4⟩ := ever_both (o0 := X 8) hT hM hv (al := v.1 1) (by omega)
    obtain ⟨t, o2, f1, f2, f3, f4⟩ := ever_both (o0 := X 8) hT (e3.m0 hM) hv ho
    rw [hT.2.1, hM.2.1, e1, e2, l_1, sh1_nI (by omega)]
    simp only [bd_s, Bool.true_eq_false, if_false]
    rw [bit_c (by omega), bits_c s e4, bits_m s e4, (e3.m0 hM).2.1]
    simp only [bd_s, nI_or]
    rw [f1, f2, bd_s, bd_s, bits_c t f4, bits_m t f4]
    exact ⟨_, o2, rfl, rfl, e3.tr f3⟩
