/-! ===== ropes alike, marks (own text) ===== -/
theorem end_both {r : Nat} (hr : r < 2) {T o : Ob} {L : Nat} {S : Nat → Nat} (hL : L ≤ 16) (hS : ∀ i, i < L → S i < 8) (h1 : T.1 1 = nI L) (h2 : ∀ i, i < L → T.2 0 i = nI (S i)) (hl : LL r o L 0 L S) : ∃ e o', 2 * e ≤ L ∧ (∀ x, x < e → pr (S x) (S (L - 1 - x)) = true) ∧ f_X3_endPairs T = some (nI e) ∧ f_X8_layRound o (nI r) = some o' ∧ Same o o' ∧ LK r o o' ∧ LL r o' L e (L - 2 * e) S := by
  have main : ∀ d x n m o1, L + 1 = 2 * x + d → 2 * x ≤ L → d < n → d < m → Same o o1 → LK r o o1 → LL r o1 L x (L - 2 * x) S → (∀ y, y < x → pr (S y) (S (L - 1 - y)) = true) → ∃ e o', 2 * e ≤ L ∧ (∀ x, x < e → pr (S x) (S (L - 1 - x)) = true) ∧ L_X3_endPairs_2 T n (nI x) = some (nI e) ∧ L_X8_layRound_0 (nI r) m o1 = some o' ∧ Same o o' ∧ LK r o o' ∧ LL r o' L e (L - 2 * e) S := by
    intro d
    induction d using Nat.strongRecOn with
    | _ d ih =>
      intro x n m o1 hd hx hn hm hs hk hll hpr
      obtain ⟨n, rfl⟩ : ∃ k, n = k + 1 := ⟨n - 1, by omega⟩
      obtain ⟨m, rfl⟩ : ∃ k, m = k + 1 := ⟨m - 1, by omega⟩
      obtain ⟨g1, g2, g3⟩ := hll
      by_cases q : L - 2 * x < 2
      · refine ⟨x, o1, hx, hpr, ?_, ?_, hs, hk, g1, g2, g3⟩
        · show L_X3_endPairs_2_step T (L_X3_endPairs_2 T n) (nI x) = _
          unfold L_X3_endPairs_2_step
          rw [h1]
          simp (disch := omega) only [bd_s, nm_s, l_0, l_1, l_2, l_3, l_4, l_5, l_6, l_7, l_8, l_9, l_10, l_16, l_20, l_32, l_44, l_48, l_57, l_59, l_60, l_99, l_100, l_107, l_108, l_112, l_255, l_256, l_300, l_9999, le_nI, lt_nI, eq_nI, cl_nI, ck_nI, gd_d, b2i_z, b2i_o, has_c, has_m, bit_c, within_c, nI_add, if_pos, if_neg, nI_or, nI_and, sh1_nI, pk_sub, gd_ckz, pk_mul]
        · show L_X8_layRound_0_step (nI r) (L_X8_layRound_0 (nI r) m) o1 = _
          unfold L_X8_layRound_0_step
          simp (disch := omega) only [bd_s, nm_s, l_0, l_1, l_2, l_3, l_4, l_5, l_6, l_7, l_8, l_9, l_10, l_16, l_20, l_32, l_44, l_48, l_57, l_59, l_60, l_99, l_100, l_107, l_108, l_112, l_255, l_256, l_300, l_9999, le_nI, lt_nI, eq_nI, cl_nI, ck_nI, gd_d, b2i_z, b2i_o, has_c, has_m, bit_c, within_c, nI_add, if_pos, if_neg, nI_or, nI_and, sh1_nI, pk_sub, gd_ckz, pk_mul, g2]
      · have a1 := h2 x (by omega)
        have c1 := at_c hL h1 h2 (show x < L by omega)
        have c2 := at_c hL h1 h2 (show L - 1 - x < L by omega)
        have c3 := pair_c _ (hS x (by omega)) _ (hS (L - 1 - x) (by omega))
        have c4 := pair_m _ (hS x (by omega)) _ (hS (L - 1 - x) (by omega))
        have m1 := g3 x (by omega)
        have m2 := g3 (L - 1 - x) (by omega)
        have stc : L_X3_endPairs_2_step T (L_X3_endPairs_2 T n) (nI x) = if pr (S x) (S (L - 1 - x)) then L_X3_endPairs_2 T n (nI (x + 1)) else some (nI x) := by
          unfold L_X3_endPairs_2_step
          rw [h1]
          simp (disch := omega) only [bd_s, nm_s, l_0, l_1, l_2, l_3, l_4, l_5, l_6, l_7, l_8, l_9, l_10, l_16, l_20, l_32, l_44, l_48, l_57, l_59, l_60, l_99, l_100, l_107, l_108, l_112, l_255, l_256, l_300, l_9999, le_nI, lt_nI, eq_nI, cl_nI, ck_nI, gd_d, b2i_z, b2i_o, has_c, has_m, bit_c, within_c, nI_add, if_pos, if_neg, nI_or, nI_and, sh1_nI, pk_sub, gd_ckz, pk_mul, c1, c2, c3]
          cases pr (S x) (S (L - 1 - x)) <;> simp
        have e2 : 16 * r + x + (L - 2 * x) - 1 = 16 * r + (L - 1 - x) := by omega
        have stm : L_X8_layRound_0_step (nI r) (L_X8_layRound_0 (nI r) m) o1 = if pr (S x) (S (L - 1 - x)) then L_X8_layRound_0 (nI r) m (sA (sA o1 25 r (nI (x + 1))) 26 r (nI (L - 2 * (x + 1)))) else some o1 := by
          unfold L_X8_layRound_0_step
          simp (disch := omega) only [bd_s, nm_s, l_0, l_1, l_2, l_3, l_4, l_5, l_6, l_7, l_8, l_9, l_10, l_16, l_20, l_32, l_44, l_48, l_57, l_59, l_60, l_99, l_100, l_107, l_108, l_112, l_255, l_256, l_300, l_9999, le_nI, lt_nI, eq_nI, cl_nI, ck_nI, gd_d, b2i_z, b2i_o, has_c, has_m, bit_c, within_c, nI_add, if_pos, if_neg, nI_or, nI_and, sh1_nI, pk_sub, gd_ckz, pk_mul, g1, g2, e2, m1, m2, c4]
          have e3 : ∀ z, (sA o1 25 r z).2 26 r = nI (L - 2 * x) := fun z => g2
          have e4 : L - 2 * x - 2 = L - 2 * (x + 1) := by omega
          simp (disch := omega) only [e3, pk_sub, e4]
          cases pr (S x) (S (L - 1 - x)) <;> simp
        cases q2 : pr (S x) (S (L - 1 - x))
        · rw [q2, if_neg (by simp)] at stc stm
          exact ⟨x, o1, hx, hpr, stc, stm, hs, hk, g1, g2, g3⟩
        · rw [q2, if_pos rfl] at stc stm
          obtain ⟨e, o', r0, r1, r2, r3, r4, r5, r6⟩ := ih (d - 2) (by omega) (x + 1) n m (sA (sA o1 25 r (nI (x + 1))) 26 r (nI (L - 2 * (x + 1)))) (by omega) (by omega) (by omega) (by omega) ((hs.tr (Same.set (by omega))).tr (Same.set (by omega))) ((hk.tr LK.s25).tr LK.s26) ⟨by
            show (sA o1 25 r (nI (x + 1))).2 25 r = _
            rw [tbl_upd, if_pos rfl], by rw [tbl_upd, if_pos rfl], g3⟩ (fun y hy => by
              by_cases q3 : y = x
              · rw [q3]; exact q2
              · exact hpr y (by omega))
          exact ⟨e, o', r0, r1, stc.trans r2, stm.trans r3, r4, r5, r6⟩
  obtain ⟨e, o', r0, r1, r2, r3, r4, r5, r6⟩ := main (L + 1) 0 512 512 o (by omega) (by omega) (by omega) (by omega) (Same.rf o) (LK.rf r o) hl (fun y hy => by omega)
  refine ⟨e, o', r0, r1, ?_, ?_, r4, r5, r6⟩
  · unfold f_X3_endPairs
    rw [l_0, r2]; rfl
  · unfold f_X8_layRound
    rw [r3]; rfl
def allq (p : Nat → Bool) : Nat → Bool
  | 0 => true
  | n + 1 => allq p n && p n
theorem allq_lo {p : Nat → Bool} : ∀ n i, i < n → p i = false → allq p n = false
  | 0, i, h, _ => by omega
  | n + 1, i, h, hp => by
    rw [allq]
    by_cases q : i = n
    · subst q; rw [hp]; simp
    · rw [allq_lo n i (by omega) hp]; rfl
def tq (S0 S1 : Nat → Nat) (e0 e1 len t i : Nat) : Bool := decide (S0 (e0 + (i + t) % len) = S1 (e1 + i))
theorem turnedq_c {T0 T1 : Ob} {L0 L1 e0 e1 len t : Nat} {S0 S1 : Nat → Nat} (hL0 : L0 ≤ 16) (hL1 : L1 ≤ 16) (hS0 : ∀ i, i < L0 → S0 i < 8) (hS1 : ∀ i, i < L1 → S1 i < 8) (h10 : T0.1 1 = nI L0) (h20 : ∀ i, i < L0 → T0.2 0 i = nI (S0 i)) (h11 : T1.1 1 = nI L1) (h21 : ∀ i, i < L1 → T1.2 0 i = nI (S1 i)) (he0 : len + 2 * e0 = L0) (he1 : len + 2 * e1 = L1) (ht : t < len ∨ t = 0) : f_X3_isSameTurned T0 T1 (nI e0) (nI e1) (nI t) = some (b2i (allq (tq S0 S1 e0 e1 len t) len)) := by
  have main : ∀ d i n, i + d = len → d < n → allq (tq S0 S1 e0 e1 len t) i = true → L_X3_isSameTurned_13 (nI e0) (nI e1) (nI t) (nI len) T0 T1 n (nI i) = some (if allq (tq S0 S1 e0 e1 len t) len then 1 else 0) := by
    intro d
    induction d with
    | zero =>
      intro i n h h2 ha
      obtain ⟨n, rfl⟩ : ∃ k, n = k + 1 := ⟨n - 1, by omega⟩
      have : i = len := by omega
      subst this
      rw [ha]
      show L_X3_isSameTurned_13_step (nI e0) (nI e1) (nI t) (nI i) T0 T1 (L_X3_isSameTurned_13 (nI e0) (nI e1) (nI t) (nI i) T0 T1 n) (nI i) = _
      unfold L_X3_isSameTurned_13_step
      rw [if_pos (nI_le (Nat.le_refl _) (by omega)), if_pos rfl]
    | succ d ih =>
      intro i n h h2 ha
      obtain ⟨n, rfl⟩ : ∃ k, n = k + 1 := ⟨n - 1, by omega⟩
      have hm : (i + t) % len = if len ≤ i + t then i + t - len else i + t := by
        split
        · rename_i c
          rw [Nat.mod_eq_sub_mod c, Nat.mod_eq_of_lt (by omega)]
        · exact Nat.mod_eq_of_lt (by omega)
      have hml : (i + t) % len < len := Nat.mod_lt _ (by omega)
      have J : J_X3_isSameTurned_46l13 (L_X3_isSameTurned_13 (nI e0) (nI e1) (nI t) (nI len) T0 T1 n) (nI ((i + t) % len)) (nI e0) (nI e1) (nI t) (nI len) (nI i) T0 T1 = if tq S0 S1 e0 e1 len t i then L_X3_isSameTurned_13 (nI e0) (nI e1) (nI t) (nI len) T0 T1 n (nI (i + 1)) else some 0 := by
        unfold J_X3_isSameTurned_46l13
        rw [nI_add, nI_add, at_c hL0 h10 h20 (show e0 + (i + t) % len < L0 by omega), at_c hL1 h11 h21 (show e1 + i < L1 by omega)]
        have b1 := hS0 (e0 + (i + t) % len) (by omega)
        have b2 := hS1 (e1 + i) (by omega)
        simp (disch := omega) only [bd_s, nm_s, l_0, l_1, l_2, l_3, l_4, l_5, l_6, l_7, l_8, l_9, l_10, l_16, l_20, l_32, l_44, l_48, l_57, l_59, l_60, l_99, l_100, l_107, l_108, l_112, l_255, l_256, l_300, l_9999, le_nI, lt_nI, eq_nI, cl_nI, ck_nI, gd_d, b2i_z, b2i_o, has_c, has_m, bit_c, within_c, nI_add, if_pos, if_neg, nI_or, nI_and, sh1_nI, pk_sub, gd_ckz]
        unfold tq
        by_cases q : S0 (e0 + (i + t) % len) = S1 (e1 + i) <;> simp [q]
      have st : L_X3_isSameTurned_13_step (nI e0) (nI e1) (nI t) (nI len) T0 T1 (L_X3_isSameTurned_13 (nI e0) (nI e1) (nI t) (nI len) T0 T1 n) (nI i) = if tq S0 S1 e0 e1 len t i then L_X3_isSameTurned_13 (nI e0) (nI e1) (nI t) (nI len) T0 T1 n (nI (i + 1)) else some 0 := by
        rw [← J]
        unfold L_X3_isSameTurned_13_step
        rw [if_neg (by rw [nI_leI (by omega) (by omega)]; omega), nI_add, hm]
        by_cases q : len ≤ i + t
        · rw [if_pos (nI_le q (by omega)), if_pos q, pk_sub q]
        · rw [if_neg (by rw [nI_leI (by omega) (by omega)]; exact q), if_neg q]
      show L_X3_isSameTurned_13_step (nI e0) (nI e1) (nI t) (nI len) T0 T1 (L_X3_isSameTurned_13 (nI e0) (nI e1) (nI t) (nI len) T0 T1 n) (nI i) = _
      rw [st]
      cases q : tq S0 S1 e0 e1 len t i
      · rw [allq_lo len i (by omega) q]
        simp
      · rw [if_pos rfl]
        exact ih (i + 1) n (by omega) (by omega) (by rw [allq, ha, q]; rfl)
  have := main len 0 512 (by omega) (by omega) rfl
  unfold f_X3_isSameTurned
  have e : L0 - 2 * e0 = len := by omega
  rw [h10]
  simp (disch := omega) only [l_2, pk_mul, pk_sub, e, nm_s, l_0, this, bd_s]
  cases allq (tq S0 S1 e0 e1 len t) len <;> rfl
theorem turnedq_m {o : Ob} {L0 L1 e0 e1 len t : Nat} {S0 S1 : Nat → Nat} (hL0 : L0 ≤ 16) (hL1 : L1 ≤ 16) (hS0 : ∀ i, i < L0 → S0 i < 8) (hS1 : ∀ i, i < L1 → S1 i < 8) (h0 : LL 0 o L0 e0 len S0) (h1 : o.2 25 1 = nI e1) (h2 : ∀ i, i < L1 → o.2 24 (16 + i) = nI (S1 i)) (he0 : len + 2 * e0 = L0) (he1 : len + 2 * e1 = L1) (ht : t < len ∨ t = 0) : f_X8_isTurned o (nI t) = some (b2i (allq (tq S0 S1 e0 e1 len t) len)) := by
  have key := loop_up (fun n (x : Int32 × Int32) => L_X8_isTurned_4 (nI t) o n x.1 x.2) (fun i (_ : Unit) => (b2i (allq (tq S0 S1 e0 e1 len t) i), nI i)) (fun _ u => u) (fun _ => b2i (allq (tq S0 S1 e0 e1 len t) len)) len (fun j _ => True)
    (by
      intro n i u hi _
      refine ⟨?_, trivial⟩
      show L_X8_isTurned_4_step (nI t) o (L_X8_isTurned_4 (nI t) o n) _ _ = L_X8_isTurned_4 (nI t) o n _ _
      unfold L_X8_isTurned_4_step
      have hml : (i + t) % len < len := Nat.mod_lt _ (by omega)
      have b1 := hS0 (e0 + (i + t) % len) (by omega)
      have b2 := hS1 (e1 + i) (by omega)
      have c1 := h0.2.2 (e0 + (i + t) % len) (by omega)
      rw [show 16 * 0 + (e0 + (i + t) % len) = e0 + (i + t) % len by omega] at c1
      have c2 := h2 (e1 + i) (by omega)
      rw [show 16 + (e1 + i) = 16 + e1 + i by omega] at c2
      rw [h0.2.1, h0.1, h1, if_neg (by rw [nI_leI (by omega) (by omega)]; omega), nI_add, pk_rem (by omega) (by omega) (by omega), allq]
      cases q : allq (tq S0 S1 e0 e1 len t) i
      · simp (disch := omega) only [bd_s, nm_s, l_0, l_1, l_2, l_3, l_4, l_5, l_6, l_7, l_8, l_9, l_10, l_16, l_20, l_32, l_44, l_48, l_57, l_59, l_60, l_99, l_100, l_107, l_108, l_112, l_255, l_256, l_300, l_9999, le_nI, lt_nI, eq_nI, cl_nI, ck_nI, gd_d, b2i_z, b2i_o, has_c, has_m, bit_c, within_c, nI_add, if_pos, if_neg, nI_or, nI_and, sh1_nI, pk_sub, gd_ckz, if_true]
        rfl
      · rw [if_neg (show ¬ b2i true = (0 : Int32) from by decide), gd_d (by rw [l_0, nI_eq (by omega) (by omega)]; omega)]
        simp (disch := omega) only [bd_s, nm_s, l_0, l_1, l_2, l_3, l_4, l_5, l_6, l_7, l_8, l_9, l_10, l_16, l_20, l_32, l_44, l_48, l_57, l_59, l_60, l_99, l_100, l_107, l_108, l_112, l_255, l_256, l_300, l_9999, le_nI, lt_nI, eq_nI, cl_nI, ck_nI, gd_d, b2i_z, b2i_o, has_c, has_m, bit_c, within_c, nI_add, if_pos, if_neg, nI_or, nI_and, sh1_nI, pk_sub, gd_ckz, c1, c2]
        unfold tq
        by_cases q : S0 (e0 + (i + t) % len) = S1 (e1 + i) <;> simp [q, b2i, l_0, l_1])
    (by
      intro n u _
      show L_X8_isTurned_4_step (nI t) o (L_X8_isTurned_4 (nI t) o n) _ _ = _
      unfold L_X8_isTurned_4_step
      rw [h0.2.1, if_pos (nI_le (Nat.le_refl _) (by omega))]) len 0 () 512 (by omega) (by omega) trivial
  obtain ⟨_, k1, -⟩ := key
  have k2 : L_X8_isTurned_4 (nI t) o 512 (1 : Int32) (0 : Int32) = some (b2i (allq (tq S0 S1 e0 e1 len t) len)) := k1
  unfold f_X8_isTurned
  rw [k2, bd_s, gd_ckz]
def anyq (p : Nat → Bool) : Nat → Bool
  | 0 => false
  | n + 1 => anyq p n || p n
theorem anyq_hi {p : Nat → Bool} : ∀ n i, i < n → p i = true → anyq p n = true
  | 0, i, h, _ => by omega
  | n + 1, i, h, hp => by
    rw [anyq]
    by_cases q : i = n
    · subst q; rw [hp]; simp
    · rw [anyq_hi n i (by omega) hp]; rfl
theorem alike_both {T0 T1 o : Ob} {n0 n1 : Nat} {W0 W1 : Nat → Nat} (h0 : RR 0 T0 (o.2 18) (o.2 19) n0 W0) (h1 : RR 1 T1 (o.2 18) (o.2 19) n1 W1) : ∃ z o', bd (f_X3_isSame T0 T1) (fun z1 => if z1 = (0 : Int32) then bd (f_X3_isTurned T0 T1) (fun z2 => bd (f_X7_asNumber z2) (fun z3 => some z3)) else some (2 : Int32)) = some z ∧ f_X8_alike o = some (z, o') ∧ Same o o' := by
  obtain ⟨o1, a1, a2, a3, a4⟩ := lay_m (r := 0) (by omega) h0
  have h1' : RR 1 T1 (o1.2 18) (o1.2 19) n1 W1 := by rw [a2.2 18 (by omega), a2.2 19 (by omega)]; exact h1
  obtain ⟨o2, b1, b2, b3, b4⟩ := lay_m (r := 1) (by omega) h1'
  have hS0 := red_lt n0 h0.2.1
  have hS1 := red_lt n1 h1.2.1
  have adj0 := red_adj (W := W0) n0
  have adj1 := red_adj (W := W1) n1
  have hL0 : (red W0 n0).1 ≤ 16 := Nat.le_trans (red_le W0 n0) h0.1
  have hL1 : (red W1 n1).1 ≤ 16 := Nat.le_trans (red_le W1 n1) h1.1
  have u0 := h0.2.2.2.1
  have v0 := h0.2.2.2.2.1
  have u1 := h1.2.2.2.1
  have v1 := h1.2.2.2.2.1
  generalize (red W0 n0).2 = S0 at *
  generalize (red W1 n1).2 = S1 at *
  generalize (red W0 n0).1 = L0 at *
  generalize (red W1 n1).1 = L1 at *
  have c4 := b3.ll (r' := 0) (by omega) (by omega) hL0 a4
  have s12 := a2.tr b2
  unfold f_X8_alike f_X3_isSame
  rw [show (0 : Int32) = nI 0 from rfl, a1, bd_s, show (1 : Int32) = nI 1 from rfl, b1, bd_s, c4.2.1, b4.2.1, u0, u1]
  obtain ⟨e0, o3, p1, p2, p3, p4, p5, p6, p7⟩ := end_both (r := 0) (by omega) hL0 hS0 u0 v0 c4
  obtain ⟨e1, o4, r1, r2, r3, r4, r5, r6, r7⟩ := end_both (r := 1) (o := o3) (by omega) hL1 hS1 u1 v1 (p6.ll (r' := 1) (by omega) (by omega) hL1 b4)
  have p7' := r6.ll (r' := 0) (by omega) (by omega) hL0 p7
  have s14 := (s12.tr p5).tr r5
  -- round
  have round : ∀ hne : ¬ (L0 = 0 ∧ L1 = 0), ∃ z o', bd (f_X3_isTurned T0 T1) (fun z2 => bd (f_X7_asNumber z2) (fun z3 => some z3)) = some z ∧ J_X8_alike_35 o2 = some (z, o') ∧ Same o o' := by
    intro hne
    unfold f_X3_isTurned J_X8_alike_35 J_X8_alike_73
    rw [p3, bd_s, r3, bd_s, show (0 : Int32) = nI 0 from rfl, p4, bd_s, show (1 : Int32) = nI 1 from rfl, r4, bd_s, u0, u1, p7'.2.1, r7.2.1]
    simp (disch := omega) only [l_2, pk_mul, pk_sub, nm_s, eq_nI]
    have z0 : L0 - 2 * e0 = 0 → L0 = 0 := by
      intro hz
      rcases Nat.eq_zero_or_pos e0 with q | q
      · omega
      · exfalso
        have x1 := p2 (e0 - 1) (by omega)
        have x2 := adj0 (e0 - 1) (by omega)
        rw [show L0 - 1 - (e0 - 1) = e0 - 1 + 1 by omega, x2] at x1
        cases x1
    have z1 : L1 - 2 * e1 = 0 → L1 = 0 := by
      intro hz
      rcases Nat.eq_zero_or_pos e1 with q | q
      · omega
      · exfalso
        have x1 := r2 (e1 - 1) (by omega)
        have x2 := adj1 (e1 - 1) (by omega)
        rw [show L1 - 1 - (e1 - 1) = e1 - 1 + 1 by omega, x2] at x1
        cases x1
    by_cases q : L0 - 2 * e0 = L1 - 2 * e1
    · have hl0 : ¬ L0 - 2 * e0 = 0 := fun e => hne ⟨z0 e, z1 (by omega)⟩
      rw [if_pos q, if_pos q, if_neg hl0]
      have R : ∃ b : Bool, L_X3_isTurned_38 (nI e0) (nI e1) (nI (L0 - 2 * e0)) T0 T1 512 (nI 0) = some (if b then 0 else 1) ∧ L_X8_alike_77 o4 512 (nI 0) (nI 0) = some (b2i b) := by
        have tc : ∀ t, t < L0 - 2 * e0 → f_X3_isSameTurned T0 T1 (nI e0) (nI e1) (nI t) = some (b2i (allq (tq S0 S1 e0 e1 (L0 - 2 * e0) t) (L0 - 2 * e0))) := fun t ht => turnedq_c hL0 hL1 hS0 hS1 u0 v0 u1 v1 (by omega) (by omega) (Or.inl ht)
        have tm : ∀ t, t < L0 - 2 * e0 → f_X8_isTurned o4 (nI t) = some (b2i (allq (tq S0 S1 e0 e1 (L0 - 2 * e0) t) (L0 - 2 * e0))) := fun t ht => turnedq_m hL0 hL1 hS0 hS1 p7' r7.1 (fun i hi => r7.2.2 i hi) (by omega) (by omega) (Or.inl ht)
        have lc := p7'.2.1
        have lm := r7.2.1
        rw [← q] at lm
        have hlen : L0 - 2 * e0 ≤ 16 := by omega
        generalize hlq : L0 - 2 * e0 = len at *
        refine ⟨anyq (fun t => allq (tq S0 S1 e0 e1 len t) len) len, ?_, ?_⟩
        · have main : ∀ d i n, i + d = len → d < n → anyq (fun t => allq (tq S0 S1 e0 e1 len t) len) i = false → L_X3_isTurned_38 (nI e0) (nI e1) (nI len) T0 T1 n (nI i) = some (if anyq (fun t => allq (tq S0 S1 e0 e1 len t) len) len then 0 else 1) := by
            intro d
            induction d with
            | zero =>
              intro i n h h2 ha
              obtain ⟨n, rfl⟩ : ∃ k, n = k + 1 := ⟨n - 1, by omega⟩
              have : i = len := by omega
              rw [this] at ha ⊢
              rw [ha]
              show L_X3_isTurned_38_step (nI e0) (nI e1) (nI len) T0 T1 (L_X3_isTurned_38 (nI e0) (nI e1) (nI len) T0 T1 n) (nI len) = _
              unfold L_X3_isTurned_38_step
              rw [if_pos (nI_le (Nat.le_refl _) (by omega))]; rfl
            | succ d ih =>
              intro i n h h2 ha
              obtain ⟨n, rfl⟩ : ∃ k, n = k + 1 := ⟨n - 1, by omega⟩
              show L_X3_isTurned_38_step (nI e0) (nI e1) (nI len) T0 T1 (L_X3_isTurned_38 (nI e0) (nI e1) (nI len) T0 T1 n) (nI i) = _
              unfold L_X3_isTurned_38_step
              rw [if_neg (by rw [nI_leI (by omega) (by omega)]; omega), tc i (by omega), bd_s]
              cases qa : allq (tq S0 S1 e0 e1 len i) len
              · rw [if_pos (show b2i false = (0 : Int32) from rfl), nm_s, l_1, nI_add]
                exact ih (i + 1) n (by omega) (by omega) (by rw [anyq, ha, qa]; rfl)
              · rw [if_neg (by decide), anyq_hi len i (by omega) qa]; rfl
          exact main len 0 512 (by omega) (by omega) rfl
        · have key := loop_up (fun n (x : Int32 × Int32) => L_X8_alike_77 o4 n x.1 x.2) (fun i (_ : Unit) => (b2i (anyq (fun t => allq (tq S0 S1 e0 e1 len t) len) i), nI i)) (fun _ u => u) (fun _ => b2i (anyq (fun t => allq (tq S0 S1 e0 e1 len t) len) len)) len (fun j _ => True)
            (by
              intro n i u hi _
              refine ⟨?_, trivial⟩
              show L_X8_alike_77_step o4 (L_X8_alike_77 o4 n) _ _ = L_X8_alike_77 o4 n _ _
              unfold L_X8_alike_77_step
              rw [lc, lm, if_neg (by rw [nI_leI (by omega) (by omega)]; omega), if_pos rfl, tm i hi, anyq]
              cases qb : anyq (fun t => allq (tq S0 S1 e0 e1 len t) len) i
              · rw [if_pos (show b2i false = (0 : Int32) from rfl), bd_s, Bool.false_or]
                cases qa : allq (tq S0 S1 e0 e1 len i) len
                · rw [if_pos (show b2i false = (0 : Int32) from rfl), nm_s, l_1, nI_add]; rfl
                · rw [if_neg (by decide), nm_s, l_1, nI_add]; rfl
              · rw [if_neg (show ¬ b2i true = (0 : Int32) from by decide), nm_s, l_1, nI_add]; rfl)
            (by
              intro n u _
              show L_X8_alike_77_step o4 (L_X8_alike_77 o4 n) _ _ = _
              unfold L_X8_alike_77_step
              rw [lc, if_pos (nI_le (Nat.le_refl _) (by omega))]) len 0 () 512 (by omega) (by omega) trivial
          obtain ⟨_, k1, -⟩ := key
          exact k1
      obtain ⟨b, k1, k2⟩ := R
      unfold J_X8_alike_74
      rw [k1, bd_s, show (0 : Int32) = nI 0 from rfl, k2, bd_s]
      cases b
      · exact ⟨nI 0, o4, rfl, rfl, s14⟩
      · exact ⟨nI 1, o4, rfl, rfl, s14⟩
    · rw [if_neg q, if_neg q]
      have key := loop_up (fun n (x : Int32 × Int32) => L_X8_alike_77 o4 n x.1 x.2) (fun i (_ : Unit) => (nI 0, nI i)) (fun _ u => u) (fun _ => nI 0) (L0 - 2 * e0) (fun j _ => True)
        (by
          intro n i u hi _
          refine ⟨?_, trivial⟩
          show L_X8_alike_77_step o4 (L_X8_alike_77 o4 n) _ _ = L_X8_alike_77 o4 n _ _
          unfold L_X8_alike_77_step
          rw [p7'.2.1, r7.2.1, if_neg (by rw [nI_leI (by omega) (by omega)]; omega), if_pos (show nI 0 = (0 : Int32) from rfl), if_neg (by rw [nI_eq (by omega) (by omega)]; exact q), nm_s, l_1, nI_add]; rfl)
        (by
          intro n u _
          show L_X8_alike_77_step o4 (L_X8_alike_77 o4 n) _ _ = _
          unfold L_X8_alike_77_step
          rw [p7'.2.1, if_pos (nI_le (Nat.le_refl _) (by omega))]) (L0 - 2 * e0) 0 () 512 (by omega) (by omega) trivial
      obtain ⟨_, k1, -⟩ := key
      have k1 : L_X8_alike_77 o4 512 (nI 0) (nI 0) = some (nI 0) := k1
      unfold J_X8_alike_74
      exact ⟨nI 0, o4, rfl, (congrArg (fun z => bd z (fun z1 => if z1 = (0 : Int32) then some ((0 : Int32), o4) else some ((1 : Int32), o4))) k1).trans rfl, s14⟩
  by_cases q : L0 = L1
  · subst q
    have tc : f_X3_isSameTurned T0 T1 (nI 0) (nI 0) (nI 0) = some (b2i (allq (tq S0 S1 0 0 L0 0) L0)) := turnedq_c hL0 hL1 hS0 hS1 u0 v0 u1 v1 (by omega) (by omega) (Or.inr rfl)
    have tm : f_X8_isTurned o2 (nI 0) = some (b2i (allq (tq S0 S1 0 0 L0 0) L0)) := turnedq_m hL0 hL1 hS0 hS1 c4 b4.1 (fun i hi => b4.2.2 i hi) (by omega) (by omega) (Or.inr rfl)
    rw [if_pos rfl, if_pos rfl, tc, tm, bd_s, bd_s]
    cases qa : allq (tq S0 S1 0 0 L0 0) L0
    · obtain ⟨z, o', w1, w2, w3⟩ := round (fun e => by
        rw [e.1] at qa; cases qa)
      exact ⟨z, o', w1, w2, w3⟩
    · exact ⟨2, o2, rfl, rfl, s12⟩
  · rw [if_neg (by rw [nI_eq (by omega) (by omega)]; exact q), if_neg (by rw [nI_eq (by omega) (by omega)]; exact q)]
    obtain ⟨z, o', w1, w2, w3⟩ := round (fun e => q (by omega))
    exact ⟨z, o', w1, w2, w3⟩
def sgn (m c : Nat) : Int32 := if c / 2 = m then (if c % 2 = 0 then nI 1 else -nI 1) else nI 0
def csum (m : Nat) (S : Nat → Nat) : Nat → Int32
  | 0 => nI 0
  | n + 1 => csum m S n + sgn m (S n)
theorem csum_congr {m : Nat} {S V : Nat → Nat} : ∀ n, (∀ i, i < n → S i = V i) → csum m S n = csum m V n
  | 0, _ => rfl
  | n + 1, h => by rw [csum, csum, csum_congr n (fun i hi => h i (by omega)), h n (by omega)]
theorem sgn_pr : ∀ m, m < 4 → ∀ a, a < 8 → ∀ b, b < 8 → pr a b = true → sgn m a + sgn m b = nI 0 := by decide +kernel
theorem csum_red {m : Nat} (hm : m < 4) {W : Nat → Nat} : ∀ n, (∀ i, i < n → W i < 8) → csum m (red W n).2 (red W n).1 = csum m W n
  | 0, _ => rfl
  | n + 1, hW => by
    have ih := csum_red hm n (fun i hi => hW i (by omega))
    have hlt := red_lt n (fun i hi => hW i (by omega))
    rw [csum, ← ih, red]
    split
    · rename_i c
      rw [Bool.and_eq_true, decide_eq_true_iff] at c
      show csum m (red W n).2 ((red W n).1 - 1) = _
      obtain ⟨k, hk⟩ : ∃ k, (red W n).1 = k + 1 := ⟨(red W n).1 - 1, by omega⟩
      rw [hk, csum, show k + 1 - 1 = k from rfl, Int32.add_assoc]
      have c2 := c.2
      rw [hk, show k + 1 - 1 = k from rfl] at c2
      rw [sgn_pr m hm _ (hlt k (by omega)) _ (hW n (by omega)) c2]
      exact (Int32.add_zero _).symm
    · show csum m (fun i => if i = (red W n).1 then W n else (red W n).2 i) ((red W n).1 + 1) = _
      rw [csum, csum_congr (red W n).1 (V := (red W n).2) (fun i hi => by show (if i = (red W n).1 then W n else (red W n).2 i) = _; rw [if_neg (by omega)])]
      show _ + sgn m (if (red W n).1 = (red W n).1 then W n else (red W n).2 (red W n).1) = _
      rw [if_pos rfl]
theorem mk_c : ∀ a, a < 8 → ∀ m, m < 4 → ∀ (self : Int32), (if nI a >>> ((1 : Int32) &&& 31) = nI m then if nI a &&& (1 : Int32) = (0 : Int32) then nI 1 else -nI 1 else nI 0) = sgn m a := by
  intro a ha m hm _
  rw [l_1, shr_nI (by omega) (by omega), nI_and, Nat.and_one_is_mod, show (0 : Int32) = nI 0 from rfl]
  unfold sgn
  simp (disch := omega) only [eq_nI, Nat.pow_one]
theorem mark_c {T : Ob} {L : Nat} {S : Nat → Nat} (hL : L ≤ 16) (hS : ∀ i, i < L → S i < 8) (h1 : T.1 1 = nI L) (h2 : ∀ i, i < L → T.2 0 i = nI (S i)) {m : Nat} (hm : m < 4) : f_X3_markOf T (nI m) = some (csum m S L) := by
  have key := loop_up (fun n (x : Int32 × Int32) => L_X3_markOf_4 (nI m) T n x.1 x.2) (fun i (_ : Unit) => (csum m S i, nI i)) (fun _ u => u) (fun _ => csum m S L) L (fun j _ => True)
    (by
      intro n i u hi _
      refine ⟨?_, trivial⟩
      show L_X3_markOf_4_step (nI m) T (L_X3_markOf_4 (nI m) T n) _ _ = L_X3_markOf_4 (nI m) T n _ _
      unfold L_X3_markOf_4_step
      have b := hS i hi
      rw [h1, if_neg (by rw [nI_leI (by omega) (by omega)]; omega), at_c hL h1 h2 hi, bd_s, csum]
      simp only [l_1, nm_s, nI_add]
      rw [shr_nI (by omega) (by omega), nI_and, Nat.and_one_is_mod, show (0 : Int32) = nI 0 from rfl]
      unfold sgn
      simp (disch := omega) only [eq_nI, Nat.pow_one]
      by_cases q1 : S i / 2 = m
      · by_cases q2 : S i % 2 = 0 <;> simp [q1, q2]
      · have : csum m S i + nI 0 = csum m S i := Int32.add_zero _
        simp [q1, this])
    (by
      intro n u _
      show L_X3_markOf_4_step (nI m) T (L_X3_markOf_4 (nI m) T n) _ _ = _
      unfold L_X3_markOf_4_step
      rw [h1, if_pos (nI_le (Nat.le_refl _) (by omega))]) L 0 () 512 (by omega) (by omega) trivial
  obtain ⟨_, k1, -⟩ := key
  have k1 : L_X3_markOf_4 (nI m) T 512 (0 : Int32) (0 : Int32) = some (csum m S L) := k1
  unfold f_X3_markOf
  rw [k1]; rfl
theorem mark_m {r : Nat} (hr : r < 2) {o : Ob} {n : Nat} {W : Nat → Nat} (h0 : n ≤ 16) (hW : ∀ i, i < n → W i < 8) (h1 : o.2 18 r = nI n) (h2 : ∀ i, i < n → o.2 19 (16 * r + i) = nI (W i)) {m : Nat} (hm : m < 4) : L_X8_mark_30 (nI r) (nI m) o 512 (100 : Int32) (0 : Int32) = some ((100 : Int32) + csum m W n) := by
  have key := loop_up (fun f (x : Int32 × Int32) => L_X8_mark_30 (nI r) (nI m) o f x.1 x.2) (fun i (_ : Unit) => ((100 : Int32) + csum m W i, nI i)) (fun _ u => u) (fun _ => (100 : Int32) + csum m W n) n (fun j _ => True)
    (by
      intro f i u hi _
      refine ⟨?_, trivial⟩
      show L_X8_mark_30_step (nI r) (nI m) o (L_X8_mark_30 (nI r) (nI m) o f) _ _ = L_X8_mark_30 (nI r) (nI m) o f _ _
      unfold L_X8_mark_30_step
      have b := hW i hi
      have a2 := h2 i hi
      rw [csum, ← Int32.add_assoc]
      generalize (100 : Int32) + csum m W i = acc
      simp (disch := omega) only [bd_s, nm_s, cl_nI, ck_nI, gd_d, h1, l_16, pk_mul, nI_add, le_nI, a2, l_2, l_0, l_1, if_neg]
      rw [pk_rem (by omega) (by omega) (by omega), pk_div (by omega) (by omega) (by omega)]
      simp (disch := omega) only [eq_nI]
      unfold sgn
      by_cases q1 : W i / 2 = m
      · by_cases q2 : W i % 2 = 0 <;> simp [q1, q2]
      · simp [q1])
    (by
      intro f u _
      show L_X8_mark_30_step (nI r) (nI m) o (L_X8_mark_30 (nI r) (nI m) o f) _ _ = _
      unfold L_X8_mark_30_step
      simp (disch := omega) only [bd_s, nm_s, cl_nI, ck_nI, gd_d, h1, le_nI, if_pos]) n 0 () 512 (by omega) (by omega) trivial
  obtain ⟨_, k1, -⟩ := key
  have k2 : L_X8_mark_30 (nI r) (nI m) o 512 ((100 : Int32) + nI 0) (nI 0) = some ((100 : Int32) + csum m W n) := k1
  rwa [show (100 : Int32) + nI 0 = 100 from by decide] at k2
theorem mark_both {r : Nat} (hr : r < 2) {T o : Ob} {n : Nat} {W : Nat → Nat} (h : RR r T (o.2 18) (o.2 19) n W) {m : Nat} (hm : m < 4) : ∃ z, f_X3_markOf T (nI m) = some z ∧ L_X8_mark_30 (nI r) (nI m) o 512 (100 : Int32) (0 : Int32) = some ((100 : Int32) + z) := by
  obtain ⟨h0, hW, -, h1, h2, h3, h4⟩ := h
  refine ⟨csum m W n, ?_, mark_m hr h0 hW h3 h4 hm⟩
  rw [mark_c (Nat.le_trans (red_le W n) h0) (red_lt n hW) h1 h2 hm, csum_red hm n hW]
