/-! ===== fresh (own text) ===== -/
theorem inb_lit {x : Int32} {lo hi : Nat} (h1 : lo < 2147483648) (h2 : hi < 2147483648) (y z : Int64) (hy : y.toInt = lo) (hz : z.toInt = hi) : f_X8_in x.toInt64 y z = some (b2i (decide ((lo : Int) ≤ x.toInt) && decide (x.toInt ≤ hi))) := by
  rw [in_m, tl_i, hy, hz]
def rp (s : Nat) : Nat := match f_X7_ropeOf (nI s) with
  | some x => x.toNatClampNeg
  | none => 0
theorem rp_c : ∀ s, s < 256 → 0 < s → f_X7_ropeOf (nI s) = some (nI (rp s)) := by decide +kernel
theorem rp_m : ∀ s, s < 256 → 0 < s → f_X8_ropeOf (nI s) = some (nI (rp s)) := by decide +kernel
theorem rp_lt : ∀ s, s < 256 → rp s < 8 := by decide +kernel
theorem isSet_c {T : Ob} {v : TV} (hT : TC T v) (hv : TOK v) (x : Int32) : f_X6_isSet T x = some (b2i (inb x (2 ^ v.1 3))) := by
  have h8 := hv.2.2.2.1
  have hpw : 2 ^ v.1 3 ≤ 256 := Nat.pow_le_pow_right (n := 2) (i := v.1 3) (j := 8) (by omega) h8
  unfold f_X6_isSet
  rw [hT.2.2.2.1, bit_c (by omega), bd_s]
  by_cases h : x < 0
  · rw [inb_neg h, if_pos h]; rfl
  · obtain ⟨j, hj, rfl⟩ := nI_of h
    rw [if_neg h, inb_nI (by omega)]
    by_cases h2 : 2 ^ v.1 3 ≤ j
    · have : ¬ j < 2 ^ v.1 3 := by omega
      rw [if_pos ((nI_leI (by omega) (by omega)).mpr h2)]
      simp [this]; rfl
    · have : j < 2 ^ v.1 3 := by omega
      rw [if_neg (fun e => h2 ((nI_leI (by omega) (by omega)).mp e))]
      simp [this]; rfl
theorem isSet_m {v : TV} (hv : TOK v) (x : Int32) : f_X8_in x.toInt64 (0 : Int64) ((nI (2 ^ v.1 3) - nI 1).toInt64) = some (b2i (inb x (2 ^ v.1 3))) := by
  have h8 := hv.2.2.2.1
  have hpw : 2 ^ v.1 3 ≤ 256 := Nat.pow_le_pow_right (n := 2) (i := v.1 3) (j := 8) (by omega) h8
  rw [in_m, tl_i, nm1_i (by omega), z64, inb_d]
def wab (v : TV) (F : Nat) : Nat → Nat
  | 0 => F
  | j + 1 => wab v F j ||| (if F.testBit j then abv v j 8 else 0)
theorem wab_lt {v : TV} {F : Nat} (hF : F < 256) : ∀ j, wab v F j < 256
  | 0 => hF
  | j + 1 => by
    rw [wab]
    refine or_lt8 (wab_lt hF j) ?_
    split
    · exact abv_lt v j 8
    · omega
theorem wabove_c {T o0 : Ob} {v : TV} (hT : TC T v) (hv : TOK v) {F : Nat} (hF : F < 256) : f_X0_withAbove o0 T (nI F) = some (nI (wab v F 8)) := by
  have key := loop_up (fun n (x : Int32 × Int32) => L_X0_withAbove_4 (nI F) o0 T n x.1 x.2) (fun j (_ : Unit) => (nI (wab v F j), nI j)) (fun _ u => u) (fun _ => nI (wab v F 8)) 8 (fun j _ => True)
    (by
      intro n j u hj _
      refine ⟨?_, trivial⟩
      have hl := wab_lt (v := v) hF j
      show L_X0_withAbove_4_step (nI F) o0 T (L_X0_withAbove_4 (nI F) o0 T n) _ _ = L_X0_withAbove_4 (nI F) o0 T n _ _
      unfold L_X0_withAbove_4_step
      rw [wab]
      simp (disch := omega) only [bd_s, nm_s, l_0, l_1, l_2, l_3, l_4, l_5, l_6, l_7, l_8, l_9, l_10, l_16, l_20, l_32, l_44, l_48, l_57, l_59, l_60, l_99, l_100, l_107, l_108, l_112, l_255, l_256, l_300, l_9999, le_nI, lt_nI, eq_nI, cl_nI, ck_nI, gd_d, b2i_z, b2i_o, has_c, has_m, bit_c, within_c, nI_add, if_pos, if_neg, nI_or, nI_and, sh1_nI, pk_sub, gd_ckz, above_c hT hv hj]
      cases q : F.testBit j <;> simp)
    (by
      intro n u _
      show L_X0_withAbove_4_step (nI F) o0 T (L_X0_withAbove_4 (nI F) o0 T n) _ _ = _
      unfold L_X0_withAbove_4_step
      simp (disch := omega) only [bd_s, nm_s, l_0, l_1, l_2, l_3, l_4, l_5, l_6, l_7, l_8, l_9, l_10, l_16, l_20, l_32, l_44, l_48, l_57, l_59, l_60, l_99, l_100, l_107, l_108, l_112, l_255, l_256, l_300, l_9999, le_nI, lt_nI, eq_nI, cl_nI, ck_nI, gd_d, b2i_z, b2i_o, has_c, has_m, bit_c, within_c, nI_add, if_pos, if_neg, nI_or, nI_and, sh1_nI, pk_sub, gd_ckz]) 8 0 () 512 rfl (by omega) trivial
  obtain ⟨_, h1, -⟩ := key
  have h2 : L_X0_withAbove_4 (nI F) o0 T 512 (nI F) (nI 0) = some (nI (wab v F 8)) := h1
  unfold f_X0_withAbove
  simp only [bd_s, l_0, h2]
theorem wab_end {v : TV} (hv : TOK v) {F : Nat} (hF : inK v F) : wab v F (v.1 3) = wab v F 8 := by
  have h8 := hv.2.2.2.1
  have : ∀ d, v.1 3 + d ≤ 8 → wab v F (v.1 3 + d) = wab v F (v.1 3) := by
    intro d
    induction d with
    | zero => intro _; rfl
    | succ d ih =>
      intro h
      have hf : F.testBit (v.1 3 + d) = false := by
        cases q : F.testBit (v.1 3 + d)
        · rfl
        · have := hF.tb q; omega
      rw [← Nat.add_assoc, wab, hf, ih (by omega)]
      simp
  have h := this (8 - v.1 3) (by omega)
  rw [show v.1 3 + (8 - v.1 3) = 8 by omega] at h
  exact h.symm
theorem wabove_m {o : Ob} {v : TV} (hM : M0 o v) (hv : TOK v) {F : Nat} (hF : inK v F) (x1 x3 : Int32) : L_X8_fresh_50 x1 (nI F) x3 o 512 (nI F) (nI 0) = some (nI (wab v F 8)) := by
  have h8 := hv.2.2.2.1
  have hF8 := hF.lt hv
  have key := loop_up (fun n (x : Int32 × Int32) => L_X8_fresh_50 x1 (nI F) x3 o n x.1 x.2) (fun j (_ : Unit) => (nI (wab v F j), nI j)) (fun _ u => u) (fun _ => nI (wab v F (v.1 3))) (v.1 3) (fun j _ => True)
    (by
      intro n j u hj _
      refine ⟨?_, trivial⟩
      have hl := wab_lt (v := v) hF8 j
      show L_X8_fresh_50_step x1 (nI F) x3 o (L_X8_fresh_50 x1 (nI F) x3 o n) _ _ = L_X8_fresh_50 x1 (nI F) x3 o n _ _
      unfold L_X8_fresh_50_step
      rw [hM.2.2.2.1, hM.2.2.2.2.1, wab, above_m hM hv (by omega)]
      simp (disch := omega) only [bd_s, nm_s, l_0, l_1, l_2, l_3, l_4, l_5, l_6, l_7, l_8, l_9, l_10, l_16, l_20, l_32, l_44, l_48, l_57, l_59, l_60, l_99, l_100, l_107, l_108, l_112, l_255, l_256, l_300, l_9999, le_nI, lt_nI, eq_nI, cl_nI, ck_nI, gd_d, b2i_z, b2i_o, has_c, has_m, bit_c, within_c, nI_add, if_pos, if_neg, nI_or, nI_and, sh1_nI, pk_sub, gd_ckz, nI_or0]
      cases q : F.testBit j <;> simp)
    (by
      intro n u _
      show L_X8_fresh_50_step x1 (nI F) x3 o (L_X8_fresh_50 x1 (nI F) x3 o n) _ _ = _
      unfold L_X8_fresh_50_step
      rw [hM.2.2.2.1]
      simp (disch := omega) only [bd_s, nm_s, l_0, l_1, l_2, l_3, l_4, l_5, l_6, l_7, l_8, l_9, l_10, l_16, l_20, l_32, l_44, l_48, l_57, l_59, l_60, l_99, l_100, l_107, l_108, l_112, l_255, l_256, l_300, l_9999, le_nI, lt_nI, eq_nI, cl_nI, ck_nI, gd_d, b2i_z, b2i_o, has_c, has_m, bit_c, within_c, nI_add, if_pos, if_neg, nI_or, nI_and, sh1_nI, pk_sub, gd_ckz]) (v.1 3) 0 () 512 (by omega) (by omega) trivial
  obtain ⟨_, h1, -⟩ := key
  rw [← wab_end hv hF]
  exact h1
def cf (v : TV) (m N s : Nat) : Bool := decide (pc s = m) && (decide (sd s (v.1 4) = 0) && decide (s &&& N = 0))
def better (b : Option Nat) (s : Nat) : Bool := match b with
  | none => true
  | some B => decide (rp s < rp B)
def bst (p : Nat → Bool) : Nat → Option Nat
  | 0 => none
  | n + 1 => if p n && better (bst p n) n then some n else bst p n
theorem bst_lt {p : Nat → Bool} : ∀ n B, bst p n = some B → B < n ∧ p B = true
  | 0, _, h => by cases h
  | n + 1, B, h => by
    rw [bst] at h
    by_cases q : (p n && better (bst p n) n) = true
    · rw [if_pos q] at h; cases h
      rw [Bool.and_eq_true] at q
      exact ⟨by omega, q.1⟩
    · rw [if_neg q] at h
      have := bst_lt n B h
      exact ⟨by omega, this.2⟩
theorem bst_more {p : Nat → Bool} {n : Nat} (h : ∀ j, n ≤ j → p j = false) : ∀ d, bst p (n + d) = bst p n
  | 0 => rfl
  | d + 1 => by rw [← Nat.add_assoc, bst, h (n + d) (by omega), bst_more h d]; simp
theorem cf_out {v : TV} (hv : TOK v) {m N s : Nat} (h : 2 ^ v.1 3 ≤ s) (h2 : s < 256) : cf v m N s = false := by
  unfold cf
  have : ¬ sd s (v.1 4) = 0 := fun e => by
    have h1 := ((sd_zero h2).mp e).inK (v := v) hv.2.2.2.2.1
    unfold inK at h1; omega
  simp [this]
theorem within_free {v : TV} (hv : TOK v) {s N : Nat} (hs : s < 256) (hN : N < 256) : decide (sd s (sd (v.1 4) N) = 0) = (decide (sd s (v.1 4) = 0) && decide (s &&& N = 0)) := by
  have htd := hv.td
  rw [Bool.eq_iff_iff, Bool.and_eq_true, decide_eq_true_iff, decide_eq_true_iff, decide_eq_true_iff, sd_zero hs, sd_zero hs, z_tb]
  constructor
  · intro h
    refine ⟨fun j hj => sd_sub htd j (h j hj), fun j => ?_⟩
    rw [Nat.testBit_and]
    cases q : s.testBit j
    · rfl
    · have := h j q
      rw [sd_tb htd, Bool.and_eq_true] at this
      simpa using this.2
  · intro h j hj
    rw [sd_tb htd, h.1 j hj]
    have := h.2 j
    rw [Nat.testBit_and, hj] at this
    simp at this
    simp [this]
def enc0 : Option Nat → Int32
  | none => nI 0
  | some B => nI B
theorem shortest_c {v : TV} (hv : TOK v) {m N : Nat} (hm : 1 ≤ m) (hm2 : m ≤ 8) (hN : N < 256) (o0 o1 : Ob) : f_X0_shortest o0 o1 (nI m) (nI (sd (v.1 4) N)) = some (enc0 (bst (cf v m N) 256)) := by
  have htd := hv.td
  have hfl := sd_lt8 N htd
  have main : ∀ (d s n : Nat), s + d = 256 → 1 ≤ s → d < n → L_X0_shortest_5 (nI m) (nI (sd (v.1 4) N)) o0 o1 n (enc0 (bst (cf v m N) s)) (nI s) = some (enc0 (bst (cf v m N) 256)) := by
    intro d
    induction d with
    | zero =>
      intro s n h1 h2 h3
      obtain ⟨n, rfl⟩ : ∃ i, n = i + 1 := ⟨n - 1, by omega⟩
      have : s = 256 := by omega
      subst this
      show L_X0_shortest_5_step (nI m) (nI (sd (v.1 4) N)) o0 o1 (L_X0_shortest_5 (nI m) (nI (sd (v.1 4) N)) o0 o1 n) _ _ = _
      unfold L_X0_shortest_5_step
      rw [if_pos (by rw [l_256, nI_leI (by omega) (by omega)]; omega)]
    | succ d ih =>
      intro s n h1 h2 h3
      obtain ⟨n, rfl⟩ : ∃ i, n = i + 1 := ⟨n - 1, by omega⟩
      have hs : s < 256 := by omega
      have hp := pc_8 s hs
      have ih1 := ih (s + 1) n (by omega) (by omega) (by omega)
      have hst : L_X0_shortest_5 (nI m) (nI (sd (v.1 4) N)) o0 o1 (n + 1) (enc0 (bst (cf v m N) s)) (nI s) = L_X0_shortest_5 (nI m) (nI (sd (v.1 4) N)) o0 o1 n (enc0 (bst (cf v m N) (s + 1))) (nI (s + 1)) := by
        show L_X0_shortest_5_step (nI m) (nI (sd (v.1 4) N)) o0 o1 (L_X0_shortest_5 (nI m) (nI (sd (v.1 4) N)) o0 o1 n) _ _ = _
        unfold L_X0_shortest_5_step J_X0_shortest_37l5
        rw [if_neg (by rw [l_256, nI_leI (by omega) (by omega)]; omega), bits_c s hs, within_c _ hs, bst]
        have hcf : cf v m N s = (decide (pc s = m) && decide (sd s (sd (v.1 4) N) = 0)) := by rw [within_free hv hs hN]; rfl
        simp (disch := omega) only [bd_s, eq_nI, l_0, b2i_z]
        by_cases q1 : pc s = m
        · by_cases q2 : sd s (sd (v.1 4) N) = 0
          · rw [hcf]
            simp only [q1, q2, decide_true, Bool.and_true, Bool.true_and, if_true, Bool.true_eq_false, if_false]
            unfold J_X0_shortest_38l5
            rw [if_neg (by decide)]
            cases hb : bst (cf v m N) s with
            | none =>
              rw [show enc0 none = nI 0 from rfl, if_pos (show nI 0 = (0 : Int32) from rfl), nm_s, l_1, nI_add]; rfl
            | some B =>
              obtain ⟨hB1, hB2⟩ := bst_lt s B hb
              have hB0 : 0 < B := by
                rcases Nat.eq_zero_or_pos B with e | e
                · subst e
                  unfold cf at hB2
                  have : pc 0 = 0 := rfl
                  rw [this] at hB2
                  have : ¬ 0 = m := by omega
                  simp [this] at hB2
                · exact e
              have r1 := rp_lt s hs
              have r2 := rp_lt B (by omega)
              rw [show enc0 (some B) = nI B from rfl, if_neg (show ¬ nI B = (0 : Int32) from fun e => by rw [l_0, nI_eq (by omega) (by omega)] at e; omega), rp_c s hs (by omega), rp_c B (by omega) hB0]
              simp (disch := omega) only [bd_s, le_nI, nm_s, l_1, nI_add]
              by_cases q3 : rp B ≤ rp s
              · have : ¬ rp s < rp B := by omega
                simp [q3, better, this]; rfl
              · have : rp s < rp B := by omega
                simp [q3, better, this]; rfl
          · rw [hcf]
            simp only [q1, q2, decide_true, decide_false, Bool.and_false, Bool.false_and, if_true]
            unfold J_X0_shortest_38l5
            rw [if_pos (show nI 0 = (0 : Int32) from rfl), nm_s, l_1, nI_add]; rfl
        · rw [hcf]
          simp only [q1, decide_false, Bool.false_and, if_false]
          unfold J_X0_shortest_38l5
          rw [if_pos (show nI 0 = (0 : Int32) from rfl), nm_s, l_1, nI_add]; rfl
      rw [hst]; exact ih1
  have h1 : bst (cf v m N) 1 = none := by
    have : cf v m N 0 = false := by
      unfold cf
      have e : ¬ pc 0 = m := by have : pc 0 = 0 := rfl; omega
      simp [e]
    rw [bst, this]; rfl
  have := main 255 1 512 rfl (by omega) (by omega)
  rw [h1] at this
  unfold f_X0_shortest
  rw [l_0, l_1, show enc0 none = nI 0 from rfl] at *
  rw [this]; rfl
theorem shortest_m {o : Ob} {v : TV} (hM : M0 o v) (hv : TOK v) {m N : Nat} (hm : 1 ≤ m) (hm2 : m ≤ 8) (hN : N < 256) (x3 : Int32) : L_X8_fresh_104 (nI m) x3 (nI N) o 512 (-4 : Int32) (nI 0) = some (encB (bst (cf v m N) 256)) := by
  have htd := hv.td
  have h8 := hv.2.2.2.1
  have hpw : 2 ^ v.1 3 ≤ 256 := Nat.pow_le_pow_right (n := 2) (i := v.1 3) (j := 8) (by omega) h8
  have main : ∀ (d s n : Nat), s + d = 2 ^ v.1 3 → d < n → L_X8_fresh_104 (nI m) x3 (nI N) o n (encB (bst (cf v m N) s)) (nI s) = some (encB (bst (cf v m N) (2 ^ v.1 3))) := by
    intro d
    induction d with
    | zero =>
      intro s n h1 h3
      obtain ⟨n, rfl⟩ : ∃ i, n = i + 1 := ⟨n - 1, by omega⟩
      have : s = 2 ^ v.1 3 := by omega
      subst this
      show L_X8_fresh_104_step (nI m) x3 (nI N) o (L_X8_fresh_104 (nI m) x3 (nI N) o n) _ _ = _
      unfold L_X8_fresh_104_step
      rw [hM.2.2.2.1, if_pos (by rw [l_1, sh1_nI (by omega), nI_leI (by omega) (by omega)]; omega)]
    | succ d ih =>
      intro s n h1 h3
      obtain ⟨n, rfl⟩ : ∃ i, n = i + 1 := ⟨n - 1, by omega⟩
      have hs : s < 256 := by omega
      have hp := pc_8 s hs
      have ih1 := ih (s + 1) n (by omega) (by omega)
      have hl := sd_lt8 (v.1 4) hs
      have hl2 : s &&& N < 256 := and_lt8 _ hs
      have hst : L_X8_fresh_104 (nI m) x3 (nI N) o (n + 1) (encB (bst (cf v m N) s)) (nI s) = L_X8_fresh_104 (nI m) x3 (nI N) o n (encB (bst (cf v m N) (s + 1))) (nI (s + 1)) := by
        show L_X8_fresh_104_step (nI m) x3 (nI N) o (L_X8_fresh_104 (nI m) x3 (nI N) o n) _ _ = _
        unfold L_X8_fresh_104_step J_X8_fresh_152l104
        rw [hM.2.2.2.1, hM.2.2.2.2.1, if_neg (by rw [l_1, sh1_nI (by omega), nI_leI (by omega) (by omega)]; omega), bits_m s hs, nI_andn _ hs, nI_and, bst]
        have hcf : cf v m N s = (decide (pc s = m) && (decide (sd s (v.1 4) = 0) && decide (s &&& N = 0))) := rfl
        simp (disch := omega) only [bd_s, eq_nI, l_0]
        have no : ∀ self : Int32 → Int32 → Option Int32, J_X8_fresh_153l104 self (nI 0) (nI m) x3 (nI N) (encB (bst (cf v m N) s)) (nI s) o = self (encB (bst (cf v m N) s)) (nI (s + 1)) := by
          intro self
          unfold J_X8_fresh_153l104
          rw [if_pos (show nI 0 = (0 : Int32) from rfl), nm_s, l_1, nI_add]
        by_cases q1 : pc s = m
        · by_cases q2 : sd s (v.1 4) = 0
          · by_cases q4 : s &&& N = 0
            · rw [hcf]
              simp only [q1, q2, q4, decide_true, Bool.and_true, Bool.true_and, if_true]
              unfold J_X8_fresh_153l104
              rw [if_neg (by decide)]
              cases hb : bst (cf v m N) s with
              | none =>
                rw [show encB none = (-4 : Int32) from rfl, if_pos (by decide), nm_s, l_1, nI_add]; rfl
              | some B =>
                obtain ⟨hB1, hB2⟩ := bst_lt s B hb
                have hB0 : 0 < B := by
                  rcases Nat.eq_zero_or_pos B with e | e
                  · subst e
                    unfold cf at hB2
                    have : pc 0 = 0 := rfl
                    rw [this] at hB2
                    have : ¬ 0 = m := by omega
                    simp [this] at hB2
                  · exact e
                have r1 := rp_lt s hs
                have r2 := rp_lt B (by omega)
                have hs0 : 0 < s := by omega
                rw [show encB (some B) = nI B from rfl, if_neg (nI_pos (by omega)), rp_m s hs hs0, rp_m B (by omega) hB0]
                simp (disch := omega) only [bd_s, le_nI, nm_s, l_1, nI_add]
                by_cases q3 : rp B ≤ rp s
                · have : ¬ rp s < rp B := by omega
                  simp [q3, better, this]; rfl
                · have : rp s < rp B := by omega
                  simp [q3, better, this]; rfl
            · rw [hcf]
              simp only [q1, q2, q4, decide_true, decide_false, Bool.and_false, Bool.false_and, if_true, if_false]
              exact no _
          · rw [hcf]
            simp only [q1, q2, decide_true, decide_false, Bool.and_false, Bool.false_and, if_true, if_false]
            exact no _
        · rw [hcf]
          simp only [q1, decide_false, Bool.false_and, if_false]
          exact no _
      rw [hst]; exact ih1
  have h1 := main (2 ^ v.1 3) 0 512 (by omega) (by omega)
  have h2 : bst (cf v m N) 256 = bst (cf v m N) (2 ^ v.1 3) := by
    have : ∀ d, 2 ^ v.1 3 + d ≤ 256 → bst (cf v m N) (2 ^ v.1 3 + d) = bst (cf v m N) (2 ^ v.1 3) := by
      intro d
      induction d with
      | zero => intro _; rfl
      | succ d ih =>
        intro h
        rw [← Nat.add_assoc, bst, cf_out hv (by omega) (by omega), ih (by omega)]; simp
    have h := this (256 - 2 ^ v.1 3) (by omega)
    rw [show 2 ^ v.1 3 + (256 - 2 ^ v.1 3) = 256 by omega] at h
    exact h
  rw [h2]
  exact h1
theorem fresh_both {X : Nat → Ob} {o : Ob} {v : TV} (hT : TC (X 2) v) (hM : M0 o v) (hv : TOK v) (x y w : Int32) : ∃ r, f_X7_fresh X x y w = some r ∧ f_X8_fresh o x y w = some r := by
  have h8 := hv.2.2.2.1
  have htd := hv.td
  have hpw : 2 ^ v.1 3 ≤ 256 := Nat.pow_le_pow_right (n := 2) (i := v.1 3) (j := 8) (by omega) h8
  unfold f_X7_fresh f_X8_fresh
  rw [inb_lit (lo := 1) (hi := 8) (by omega) (by omega) 1 8 (by decide) (by decide), bd_s, inb_lit (lo := 0) (hi := 1) (by omega) (by omega) 0 1 (by decide) (by decide), hM.2.2.2.1, l_1, sh1_nI (by omega), isSet_m hv, isSet_c hT hv]
  have hx1 : (x < nI 1) = ¬ ((1 : Int) ≤ x.toInt) := by
    rw [Int32.lt_iff_toInt_lt, nI_toInt (by omega)]; apply propext; omega
  have hx8 : ((8 : Int32) < x) = ¬ (x.toInt ≤ 8) := by
    rw [Int32.lt_iff_toInt_lt, show (8 : Int32).toInt = 8 from by decide]; apply propext; omega
  have hw0 : (w < (0 : Int32)) = ¬ ((0 : Int) ≤ w.toInt) := by
    rw [Int32.lt_iff_toInt_lt, show (0 : Int32).toInt = 0 from by decide]; apply propext; omega
  have hw1 : (w ≤ nI 1) = (w.toInt ≤ 1) := by
    rw [Int32.le_iff_toInt_le, nI_toInt (by omega)]; apply propext; omega
  simp only [bd_s, hx1, hx8, hw0, hw1]
  by_cases q1 : (1 : Int) ≤ x.toInt
  · by_cases q2 : x.toInt ≤ 8
    · obtain ⟨m, hm, rfl⟩ : ∃ m, m < 2 ^ 31 ∧ x = nI m := nI_of (by rw [Int32.lt_iff_toInt_lt, show (0 : Int32).toInt = 0 from by decide]; omega)
      have hm1 := nI_toInt hm
      cases q3 : inb y (2 ^ v.1 3)
      · refine ⟨-nI 1, ?_, ?_⟩
        · simp [q1, q2, b2i_z, l_0]
        · simp [q1, q2, b2i, show ¬ ((1 : Int32) = 0) from by decide]
      · obtain ⟨F, hF, rfl⟩ := inb_of (by omega) q3
        have hFK : inK v F := hF
        have hF8 : F < 256 := by omega
        by_cases q4 : (0 : Int) ≤ w.toInt
        · by_cases q5 : w.toInt ≤ 1
          · have hN := wab_lt (v := v) hF8 8
            have e1 := wabove_c (o0 := X 8) hT hv hF8
            have e2 := wabove_m hM hv hFK (nI m) w
            have e3 := shortest_c hv (m := m) (N := wab v F 8) (by omega) (by omega) hN (X 8) (X 2)
            have e4 := shortest_m hM hv (m := m) (N := wab v F 8) (by omega) (by omega) hN w
            have e5 := nI_andn (wab v F 8) htd
            rw [← l_0] at e2 e4
            rw [hT.2.2.2.2.1]
            simp only [show (((1 : Nat) : Int) ≤ (nI m).toInt) = True from by simp; omega, show ((nI m).toInt ≤ ((8 : Nat) : Int)) = True from by simp; omega, show (((0 : Nat) : Int) ≤ w.toInt) = True from by simp; omega, show (w.toInt ≤ ((1 : Nat) : Int)) = True from by simp; omega, q1, q2, q4, q5, not_true, if_false, if_true, decide_true, Bool.and_true, b2i_z, l_0, Bool.true_eq_false, bd_s, e1]
            rw [show (-nI 1) = (-1 : Int32) from rfl, e5, e3]
            rw [l_0] at e2 e4
            rw [e2, bd_s, bd_s, e4, bd_s]
            cases hb : bst (cf v m (wab v F 8)) 256 with
            | none =>
              have k1 : (nI 0 ≤ encB none) = False := eq_false (by decide)
              refine ⟨(-4 : Int32), ?_, ?_⟩
              · simp [enc0]
              · simp [k1]
            | some B =>
              obtain ⟨hB1, hB2⟩ := bst_lt 256 B hb
              have hB0 : 0 < B := by
                rcases Nat.eq_zero_or_pos B with e | e
                · subst e
                  unfold cf at hB2
                  have : pc 0 = 0 := rfl
                  rw [this] at hB2
                  have : ¬ 0 = m := by omega
                  simp [this] at hB2
                · exact e
              have k1 : (nI 0 ≤ nI B) = True := eq_true (nI_pos' (by omega))
              have k2 : (nI B = nI 0) = False := eq_false (fun e => by rw [nI_eq (by omega) (by omega)] at e; omega)
              rw [show enc0 (some B) = nI B from rfl, show encB (some B) = nI B from rfl]
              by_cases q6 : w = nI 0
              · exact ⟨nI B, by simp only [k2, q6, if_false, if_true], by simp only [k1, q6, if_true]⟩
              · exact ⟨nI (rp B), by simp only [k2, q6, if_false, rp_c B hB1 hB0, bd_s], by simp only [k1, q6, if_true, if_false, rp_m B hB1 hB0, bd_s]⟩
          · refine ⟨-nI 1, ?_, ?_⟩ <;> simp [q1, q2, q4, q5, b2i, l_0, show ¬ ((1 : Int32) = nI 0) from by decide]
        · refine ⟨-nI 1, ?_, ?_⟩ <;> simp [q1, q2, q4, b2i, l_0, show ¬ ((1 : Int32) = nI 0) from by decide]
    · refine ⟨-nI 1, ?_, ?_⟩ <;> simp [q1, q2, b2i, l_0]
  · refine ⟨-nI 1, ?_, ?_⟩ <;> simp [q1, b2i, l_0]
