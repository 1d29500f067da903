/-! ===== orders (own text) ===== -/
theorem loop_ex {σ ρ : Type} (L : Nat → σ → Option ρ) (I : Nat → σ → Prop) (Q : ρ → Prop) (N : Nat)
    (hs : ∀ n j t, j < N → I j t → ∃ t', L (n + 1) t = L n t' ∧ I (j + 1) t')
    (he : ∀ n t, I N t → ∃ r, L (n + 1) t = some r ∧ Q r) :
    ∀ d j t n, j + d = N → d < n → I j t → ∃ r, L n t = some r ∧ Q r := by
  intro d
  induction d with
  | zero =>
    intro j t n h1 h2 h3
    obtain ⟨n, rfl⟩ : ∃ k, n = k + 1 := ⟨n - 1, by omega⟩
    have : j = N := by omega
    subst this
    exact he n t h3
  | succ d ih =>
    intro j t n h1 h2 h3
    obtain ⟨n, rfl⟩ : ∃ k, n = k + 1 := ⟨n - 1, by omega⟩
    obtain ⟨t', h4, h5⟩ := hs n j t (by omega) h3
    rw [h4]
    exact ih (j + 1) t' n (by omega) (by omega) h5
def wsum (p : Nat → Bool) (g : Nat → Int32) : Nat → Int32
  | 0 => nI 0
  | j + 1 => if p j then wsum p g j + g j else wsum p g j
theorem wsum_congr {p q : Nat → Bool} {g h : Nat → Int32} : ∀ n, (∀ j, j < n → p j = q j) → (∀ j, j < n → p j = true → g j = h j) → wsum p g n = wsum q h n
  | 0, _, _ => rfl
  | n + 1, h1, h2 => by
    rw [wsum, wsum, wsum_congr n (fun j hj => h1 j (by omega)) (fun j hj => h2 j (by omega)), ← h1 n (by omega)]
    cases q1 : p n
    · rfl
    · rw [h2 n (by omega) q1]
theorem wsum_zero {p : Nat → Bool} {g : Nat → Int32} : ∀ n, (∀ j, j < n → p j = true → g j = nI 0) → wsum p g n = nI 0
  | 0, _ => rfl
  | n + 1, h => by
    rw [wsum, wsum_zero n (fun j hj => h j (by omega))]
    cases q1 : p n
    · rfl
    · rw [h n (by omega) q1]; rfl
theorem wsum_more {p : Nat → Bool} {g : Nat → Int32} {n : Nat} (h : ∀ j, n ≤ j → p j = true → g j = nI 0) : ∀ d, wsum p g (n + d) = wsum p g n
  | 0 => rfl
  | d + 1 => by
    rw [← Nat.add_assoc, wsum, wsum_more h d]
    cases q1 : p (n + d)
    · rfl
    · rw [h (n + d) (by omega) q1]
      show wsum p g n + 0 = _
      simp
/-- zeros among the terms may be passed over -/
theorem wsum_filter {p q : Nat → Bool} {g h : Nat → Int32} : ∀ n, (∀ j, j < n → q j = true → p j = true ∧ g j = h j) → (∀ j, j < n → p j = true → q j = false → g j = nI 0) → wsum p g n = wsum q h n
  | 0, _, _ => rfl
  | n + 1, h1, h2 => by
    rw [wsum, wsum, wsum_filter n (fun j hj => h1 j (by omega)) (fun j hj => h2 j (by omega))]
    cases q1 : p n <;> cases q2 : q n
    · rfl
    · rw [(h1 n (by omega) q2).1] at q1; cases q1
    · rw [h2 n (by omega) q1 q2]
      show wsum q h n + 0 = _
      simp
    · rw [(h1 n (by omega) q2).2]
def cW (v : TV) (T : Nat → Int32) (s : Nat) : Int32 := if sd s (v.1 4) = 0 then wsum (fun j => s.testBit j && decide (sd (v.2 2 j &&& v.1 4) s = 0)) (fun j => T (sd s (2 ^ j))) 8 else nI 0
def nab (v : TV) (s j : Nat) : Nat → Bool
  | 0 => true
  | i + 1 => nab v s j i && !(s.testBit i && (v.2 2 i).testBit j)
def mW (v : TV) (T : Nat → Int32) (s : Nat) : Int32 := wsum (fun j => (s.testBit j && decide (sd s (v.1 4) = 0)) && nab v s j (v.1 3)) (fun j => T (sd s (2 ^ j))) (v.1 3)
theorem sd_bit_lt {s j : Nat} (hs : s < 256) (h : s.testBit j = true) : sd s (2 ^ j) < s := by
  have h1 : sd s (2 ^ j) ≤ s := Nat.and_le_left
  rcases Nat.lt_or_eq_of_le h1 with q | q
  · exact q
  · have : (sd s (2 ^ j)).testBit j = s.testBit j := by rw [q]
    rw [sd_tb hs, pw_tb, h] at this
    simp at this
theorem cW_congr {v : TV} {T U : Nat → Int32} {s : Nat} (hs : s < 256) (h : ∀ t, t < s → T t = U t) : cW v T s = cW v U s := by
  unfold cW
  rw [wsum_congr 8 (fun _ _ => rfl) (fun j _ hp => h _ (sd_bit_lt hs (by rw [Bool.and_eq_true] at hp; exact hp.1)))]
theorem mW_congr {v : TV} {T U : Nat → Int32} {s : Nat} (hs : s < 256) (h : ∀ t, t < s → T t = U t) : mW v T s = mW v U s := by
  unfold mW
  exact wsum_congr _ (fun _ _ => rfl) (fun j _ hp => h _ (sd_bit_lt hs (by rw [Bool.and_eq_true, Bool.and_eq_true] at hp; exact hp.1.1)))
theorem and255 {a : Nat} (h : a < 256) : a &&& 255 = a := by
  rw [show (255 : Nat) = 2 ^ 8 - 1 from rfl, Nat.and_two_pow_sub_one_eq_mod]; omega
theorem tbl_upd {o : Ob} {k i j : Nat} {x : Int32} : (sA o k i x).2 k j = if j = i then x else o.2 k j := by
  show (if k = k then upd (o.2 k) i x else o.2 k) j = _
  rw [if_pos rfl]
  rfl
theorem ways_c {o0 T : Ob} {v : TV} (hT : TC T v) (hv : TOK v) {s : Nat} (hs : s < 256) (hsub : sd s (v.1 4) = 0) : f_X0_waysOf o0 T (nI s) = some (cW v (o0.2 1) s) := by
  have htd := hv.td
  have h8 := hv.2.2.2.1
  have key := loop_up (fun n (x : Int32 × Int32) => L_X0_waysOf_4 (nI s) o0 T n x.1 x.2) (fun j (_ : Unit) => (wsum (fun j => s.testBit j && decide (sd (v.2 2 j &&& v.1 4) s = 0)) (fun j => o0.2 1 (sd s (2 ^ j))) j, nI j)) (fun _ u => u) (fun _ => cW v (o0.2 1) s) 8 (fun j _ => True)
    (by
      intro n j u hj _
      refine ⟨?_, trivial⟩
      show L_X0_waysOf_4_step (nI s) o0 T (L_X0_waysOf_4 (nI s) o0 T n) _ _ = L_X0_waysOf_4 (nI s) o0 T n _ _
      unfold L_X0_waysOf_4_step
      rw [hT.2.2.2.2.1, wsum]
      simp (disch := omega) only [bd_s, nm_s, l_0, l_1, l_2, l_3, l_4, l_5, l_6, l_7, l_8, l_9, l_10, l_16, l_20, l_32, l_44, l_48, l_57, l_59, l_60, l_99, l_100, l_107, l_108, l_112, l_255, l_256, l_300, l_9999, le_nI, lt_nI, eq_nI, cl_nI, ck_nI, gd_d, b2i_z, b2i_o, has_c, has_m, bit_c, within_c, nI_add, if_pos, if_neg, nI_or, nI_and, sh1_nI, pk_sub, gd_ckz]
      cases q1 : s.testBit j
      · simp
      · have hjt : (v.1 4).testBit j = true := (sd_zero hs).mp hsub j q1
        have hjn : j < v.1 3 := inK.tb (v := v) hv.2.2.2.2.1 hjt
        have hjj := hT.2.2.2.2.2.2 j hjn
        have e1 := hv.th hjn
        have e2 : v.2 2 j &&& v.1 4 < 256 := and_lt8 _ e1
        have e3 := sd_lt8 (2 ^ j) hs
        have e4 := and255 e3
        simp (disch := omega) only [hjj.2.2.2.1, bd_s, nm_s, l_0, l_1, l_2, l_3, l_4, l_5, l_6, l_7, l_8, l_9, l_10, l_16, l_20, l_32, l_44, l_48, l_57, l_59, l_60, l_99, l_100, l_107, l_108, l_112, l_255, l_256, l_300, l_9999, le_nI, lt_nI, eq_nI, cl_nI, ck_nI, gd_d, b2i_z, b2i_o, has_c, has_m, bit_c, within_c, nI_add, if_pos, if_neg, nI_or, nI_and, sh1_nI, pk_sub, gd_ckz, nI_andn, nI_andn', e4, Bool.true_eq_false, if_false]
        by_cases q2 : sd (v.2 2 j &&& v.1 4) s = 0 <;> simp [q2])
    (by
      intro n u _
      show L_X0_waysOf_4_step (nI s) o0 T (L_X0_waysOf_4 (nI s) o0 T n) _ _ = _
      unfold L_X0_waysOf_4_step cW
      rw [if_pos hsub]
      simp (disch := omega) only [bd_s, nm_s, l_0, l_1, l_2, l_3, l_4, l_5, l_6, l_7, l_8, l_9, l_10, l_16, l_20, l_32, l_44, l_48, l_57, l_59, l_60, l_99, l_100, l_107, l_108, l_112, l_255, l_256, l_300, l_9999, le_nI, lt_nI, eq_nI, cl_nI, ck_nI, gd_d, b2i_z, b2i_o, has_c, has_m, bit_c, within_c, nI_add, if_pos, if_neg, nI_or, nI_and, sh1_nI, pk_sub, gd_ckz]) 8 0 () 512 rfl (by omega) trivial
  obtain ⟨_, h1, -⟩ := key
  have h2 : L_X0_waysOf_4 (nI s) o0 T 512 (nI 0) (nI 0) = some (cW v (o0.2 1) s) := h1
  unfold f_X0_waysOf
  simp only [bd_s, l_0, h2]
theorem orders_c {o0 T : Ob} {v : TV} (hT : TC T v) (hv : TOK v) : ∃ (C : Nat → Int32) (o' : Ob), f_X0_tyingOrders o0 T = some (C (v.1 4), o') ∧ C 0 = nI 1 ∧ ∀ s, 1 ≤ s → s < 256 → C s = cW v C s := by
  have htd := hv.td
  have key := loop_ex (fun n (x : Int32 × Ob) => L_X0_tyingOrders_9 T n x.1 x.2) (fun j x => 1 ≤ j ∧ x.1 = nI j ∧ x.2.2 1 0 = nI 1 ∧ ∀ s, 1 ≤ s → s < j → x.2.2 1 s = cW v (x.2.2 1) s) (fun o' => o'.2 1 0 = nI 1 ∧ ∀ s, 1 ≤ s → s < 256 → o'.2 1 s = cW v (o'.2 1) s) 256
    (by
      rintro n j ⟨x, o⟩ hj ⟨h1, hx, h2, h3⟩
      have hx : x = nI j := hx
      subst hx
      have h2 : o.2 1 0 = nI 1 := h2
      have h3 : ∀ s, 1 ≤ s → s < j → o.2 1 s = cW v (o.2 1) s := h3
      have fin : ∀ z : Int32, z = cW v (o.2 1) j → (1 ≤ j + 1 ∧ nI (j + 1) = nI (j + 1) ∧ (sA o 1 j z).2 1 0 = nI 1 ∧ ∀ s, 1 ≤ s → s < j + 1 → (sA o 1 j z).2 1 s = cW v ((sA o 1 j z).2 1) s) := by
        intro z hz
        refine ⟨by omega, rfl, ?_, fun s hs1 hs2 => ?_⟩
        · rw [tbl_upd, if_neg (by omega)]; exact h2
        · have : cW v ((sA o 1 j z).2 1) s = cW v (o.2 1) s := cW_congr (by omega) (fun t ht => by rw [tbl_upd, if_neg (by omega)])
          rw [this, tbl_upd]
          by_cases q : s = j
          · rw [if_pos q, hz, q]
          · rw [if_neg q]; exact h3 s hs1 (by omega)
      by_cases q : sd j (v.1 4) = 0
      · refine ⟨(nI (j + 1), sA o 1 j (cW v (o.2 1) j)), ?_, fin _ rfl⟩
        show L_X0_tyingOrders_9_step T (L_X0_tyingOrders_9 T n) _ _ = L_X0_tyingOrders_9 T n _ _
        unfold L_X0_tyingOrders_9_step
        rw [hT.2.2.2.2.1, ways_c hT hv (by omega) q]
        simp (disch := omega) only [bd_s, nm_s, l_0, l_1, l_2, l_3, l_4, l_5, l_6, l_7, l_8, l_9, l_10, l_16, l_20, l_32, l_44, l_48, l_57, l_59, l_60, l_99, l_100, l_107, l_108, l_112, l_255, l_256, l_300, l_9999, le_nI, lt_nI, eq_nI, cl_nI, ck_nI, gd_d, b2i_z, b2i_o, has_c, has_m, bit_c, within_c, nI_add, if_pos, if_neg, nI_or, nI_and, sh1_nI, pk_sub, gd_ckz, q, decide_true, Bool.true_eq_false, if_false]
      · refine ⟨(nI (j + 1), sA o 1 j (nI 0)), ?_, fin _ (by unfold cW; rw [if_neg q])⟩
        show L_X0_tyingOrders_9_step T (L_X0_tyingOrders_9 T n) _ _ = L_X0_tyingOrders_9 T n _ _
        unfold L_X0_tyingOrders_9_step
        rw [hT.2.2.2.2.1]
        simp (disch := omega) only [bd_s, nm_s, l_0, l_1, l_2, l_3, l_4, l_5, l_6, l_7, l_8, l_9, l_10, l_16, l_20, l_32, l_44, l_48, l_57, l_59, l_60, l_99, l_100, l_107, l_108, l_112, l_255, l_256, l_300, l_9999, le_nI, lt_nI, eq_nI, cl_nI, ck_nI, gd_d, b2i_z, b2i_o, has_c, has_m, bit_c, within_c, nI_add, if_pos, if_neg, nI_or, nI_and, sh1_nI, pk_sub, gd_ckz, q, decide_false, if_true])
    (by
      rintro n ⟨x, o⟩ ⟨h1, hx, h2, h3⟩
      have hx : x = nI 256 := hx
      subst hx
      refine ⟨o, ?_, h2, h3⟩
      show L_X0_tyingOrders_9_step T (L_X0_tyingOrders_9 T n) _ _ = _
      unfold L_X0_tyingOrders_9_step
      simp (disch := omega) only [bd_s, nm_s, l_0, l_1, l_2, l_3, l_4, l_5, l_6, l_7, l_8, l_9, l_10, l_16, l_20, l_32, l_44, l_48, l_57, l_59, l_60, l_99, l_100, l_107, l_108, l_112, l_255, l_256, l_300, l_9999, le_nI, lt_nI, eq_nI, cl_nI, ck_nI, gd_d, b2i_z, b2i_o, has_c, has_m, bit_c, within_c, nI_add, if_pos, if_neg, nI_or, nI_and, sh1_nI, pk_sub, gd_ckz]) 255 1 (nI 1, sA o0 1 0 (nI 1)) 512 rfl (by omega) ⟨by omega, rfl, by show (sA o0 1 0 (nI 1)).2 1 0 = _; rw [tbl_upd, if_pos rfl], fun s h1 h2 => by omega⟩
  obtain ⟨o', h1, h2, h3⟩ := key
  have h1 : L_X0_tyingOrders_9 T 512 (nI 1) (sA o0 1 0 (nI 1)) = some o' := h1
  refine ⟨o'.2 1, o', ?_, h2, h3⟩
  unfold f_X0_tyingOrders
  have e4 := and255 htd
  rw [hT.2.2.2.2.1]
  simp (disch := omega) only [bd_s, nm_s, l_0, l_1, l_2, l_3, l_4, l_5, l_6, l_7, l_8, l_9, l_10, l_16, l_20, l_32, l_44, l_48, l_57, l_59, l_60, l_99, l_100, l_107, l_108, l_112, l_255, l_256, l_300, l_9999, le_nI, lt_nI, eq_nI, cl_nI, ck_nI, gd_d, b2i_z, b2i_o, has_c, has_m, bit_c, within_c, nI_add, if_pos, if_neg, nI_or, nI_and, sh1_nI, pk_sub, gd_ckz, h1, e4]
theorem nab_m {o : Ob} {v : TV} (hM : M0 o v) (hv : TOK v) {s j : Nat} (hs : s < 256) (hj : j < 8) (k : Bool) : L_X8_orders_70 (nI s) (nI j) o 512 (b2i k) (nI 0) = some (b2i (k && nab v s j (v.1 3))) := by
  have h8 := hv.2.2.2.1
  have key := loop_up (fun n (x : Int32 × Int32) => L_X8_orders_70 (nI s) (nI j) o n x.1 x.2) (fun i (_ : Unit) => (b2i (k && nab v s j i), nI i)) (fun _ u => u) (fun _ => b2i (k && nab v s j (v.1 3))) (v.1 3) (fun j _ => True)
    (by
      intro n i u hi _
      refine ⟨?_, trivial⟩
      show L_X8_orders_70_step (nI s) (nI j) o (L_X8_orders_70 (nI s) (nI j) o n) _ _ = L_X8_orders_70 (nI s) (nI j) o n _ _
      unfold L_X8_orders_70_step
      have hjj := hM.2.2.2.2.2.2 i hi
      have e1 := hv.th hi
      rw [hM.2.2.2.1, nab]
      simp (disch := omega) only [bd_s, nm_s, l_0, l_1, l_2, l_3, l_4, l_5, l_6, l_7, l_8, l_9, l_10, l_16, l_20, l_32, l_44, l_48, l_57, l_59, l_60, l_99, l_100, l_107, l_108, l_112, l_255, l_256, l_300, l_9999, le_nI, lt_nI, eq_nI, cl_nI, ck_nI, gd_d, b2i_z, b2i_o, has_c, has_m, bit_c, within_c, nI_add, if_pos, if_neg, nI_or, nI_and, sh1_nI, pk_sub, gd_ckz, hjj.2.2.1]
      cases k
      · simp [b2i]; rfl
      · cases q1 : nab v s j i
        · simp [b2i]; rfl
        · cases q2 : s.testBit i <;> cases q3 : (v.2 2 i).testBit j <;> simp [b2i] <;> rfl)
    (by
      intro n u _
      show L_X8_orders_70_step (nI s) (nI j) o (L_X8_orders_70 (nI s) (nI j) o n) _ _ = _
      unfold L_X8_orders_70_step
      rw [hM.2.2.2.1]
      simp (disch := omega) only [bd_s, nm_s, l_0, l_1, l_2, l_3, l_4, l_5, l_6, l_7, l_8, l_9, l_10, l_16, l_20, l_32, l_44, l_48, l_57, l_59, l_60, l_99, l_100, l_107, l_108, l_112, l_255, l_256, l_300, l_9999, le_nI, lt_nI, eq_nI, cl_nI, ck_nI, gd_d, b2i_z, b2i_o, has_c, has_m, bit_c, within_c, nI_add, if_pos, if_neg, nI_or, nI_and, sh1_nI, pk_sub, gd_ckz]) (v.1 3) 0 () 512 (by omega) (by omega) trivial
  obtain ⟨_, h1, -⟩ := key
  have h2 : L_X8_orders_70 (nI s) (nI j) o 512 (b2i (k && true)) (nI 0) = some (b2i (k && nab v s j (v.1 3))) := h1
  rwa [Bool.and_true] at h2
theorem row_m {o : Ob} {v : TV} (hM : M0 o v) (hv : TOK v) {s : Nat} (h0 : 1 ≤ s) (hs : inK v s) : ∃ o', L_X8_orders_30 (nI s) 512 (nI 0) (sA o 23 s (nI 0)) = some o' ∧ Same o o' ∧ (∀ t, t ≠ s → o'.2 23 t = o.2 23 t) ∧ o'.2 23 s = mW v (o.2 23) s := by
  have h8 := hv.2.2.2.1
  have hs8 := hs.lt hv
  have htd := hv.td
  have key := loop_ex (fun n (x : Int32 × Ob) => L_X8_orders_30 (nI s) n x.1 x.2) (fun j x => x.1 = nI j ∧ Same o x.2 ∧ (∀ t, t ≠ s → x.2.2 23 t = o.2 23 t) ∧ x.2.2 23 s = wsum (fun j => (s.testBit j && decide (sd s (v.1 4) = 0)) && nab v s j (v.1 3)) (fun j => o.2 23 (sd s (2 ^ j))) j) (fun o' => Same o o' ∧ (∀ t, t ≠ s → o'.2 23 t = o.2 23 t) ∧ o'.2 23 s = mW v (o.2 23) s) (v.1 3)
    (by
      rintro n j ⟨x, o1⟩ hj ⟨hx, h1, h2, h3⟩
      have hx : x = nI j := hx
      subst hx
      have h1 : Same o o1 := h1
      have h2 : ∀ t, t ≠ s → o1.2 23 t = o.2 23 t := h2
      have h3 : o1.2 23 s = wsum (fun j => (s.testBit j && decide (sd s (v.1 4) = 0)) && nab v s j (v.1 3)) (fun j => o.2 23 (sd s (2 ^ j))) j := h3
      have hM1 := h1.m0 hM
      have e3 := sd_lt8 (2 ^ j) hs8
      have fin : ∀ b : Bool, (b = ((s.testBit j && decide (sd s (v.1 4) = 0)) && nab v s j (v.1 3))) → ∀ z : Int32, z = (if b then o1.2 23 s + o1.2 23 (sd s (2 ^ j)) else o1.2 23 s) → (nI (j + 1) = nI (j + 1) ∧ Same o (sA o1 23 s z) ∧ (∀ t, t ≠ s → (sA o1 23 s z).2 23 t = o.2 23 t) ∧ (sA o1 23 s z).2 23 s = wsum (fun j => (s.testBit j && decide (sd s (v.1 4) = 0)) && nab v s j (v.1 3)) (fun j => o.2 23 (sd s (2 ^ j))) (j + 1)) := by
        intro b hb z hz
        refine ⟨rfl, h1.tr (Same.set (by omega)), fun t ht => ?_, ?_⟩
        · rw [tbl_upd, if_neg ht]; exact h2 t ht
        · rw [tbl_upd, if_pos rfl, hz, wsum, ← hb, h3]
          cases b
          · rfl
          · have hst : s.testBit j = true := by
              have := hb.symm
              rw [Bool.and_eq_true, Bool.and_eq_true] at this; exact this.1.1
            have hlt := sd_bit_lt hs8 hst
            rw [h2 _ (by omega)]
      have go : ∀ k : Bool, k = (s.testBit j && decide (sd s (v.1 4) = 0)) → ∃ t', J_X8_orders_66l30 (L_X8_orders_30 (nI s) n) (b2i k) (nI s) (nI j) o1 = (fun x : Int32 × Ob => L_X8_orders_30 (nI s) n x.1 x.2) t' ∧ t'.1 = nI (j + 1) ∧ Same o t'.2 ∧ (∀ t, t ≠ s → t'.2.2 23 t = o.2 23 t) ∧ t'.2.2 23 s = wsum (fun j => (s.testBit j && decide (sd s (v.1 4) = 0)) && nab v s j (v.1 3)) (fun j => o.2 23 (sd s (2 ^ j))) (j + 1) := by
        intro k hk
        unfold J_X8_orders_66l30
        rw [l_0, nab_m hM1 hv hs8 (by omega)]
        cases q : (k && nab v s j (v.1 3))
        · refine ⟨(nI (j + 1), sA o1 23 s (o1.2 23 s)), ?_, fin false (by rw [← hk, q]) _ rfl⟩
          simp (disch := omega) only [bd_s, nm_s, l_0, l_1, l_2, l_3, l_4, l_5, l_6, l_7, l_8, l_9, l_10, l_16, l_20, l_32, l_44, l_48, l_57, l_59, l_60, l_99, l_100, l_107, l_108, l_112, l_255, l_256, l_300, l_9999, le_nI, lt_nI, eq_nI, cl_nI, ck_nI, gd_d, b2i_z, b2i_o, has_c, has_m, bit_c, within_c, nI_add, if_pos, if_neg, nI_or, nI_and, sh1_nI, pk_sub, gd_ckz, if_true]
          rw [show o1.2 23 s + nI 0 = o1.2 23 s from Int32.add_zero _]
        · refine ⟨(nI (j + 1), sA o1 23 s (o1.2 23 s + o1.2 23 (sd s (2 ^ j)))), ?_, fin true (by rw [← hk, q]) _ rfl⟩
          simp (disch := omega) only [bd_s, nm_s, l_0, l_1, l_2, l_3, l_4, l_5, l_6, l_7, l_8, l_9, l_10, l_16, l_20, l_32, l_44, l_48, l_57, l_59, l_60, l_99, l_100, l_107, l_108, l_112, l_255, l_256, l_300, l_9999, le_nI, lt_nI, eq_nI, cl_nI, ck_nI, gd_d, b2i_z, b2i_o, has_c, has_m, bit_c, within_c, nI_add, if_pos, if_neg, nI_or, nI_and, sh1_nI, pk_sub, gd_ckz, nI_andn', Bool.true_eq_false, if_false]
      show ∃ t', L_X8_orders_30_step (nI s) (L_X8_orders_30 (nI s) n) (nI j) o1 = _ ∧ _
      unfold L_X8_orders_30_step J_X8_orders_65l30
      rw [hM1.2.2.2.1, hM1.2.2.2.2.1, nI_andn _ hs8]
      have e5 := sd_lt8 (v.1 4) hs8
      simp (disch := omega) only [bd_s, le_nI, has_m, l_0, eq_nI, b2i_z]
      have hnj : ¬ v.1 3 ≤ j := by omega
      cases q1 : s.testBit j
      · have := go false (by rw [q1]; rfl)
        simpa [hnj, b2i, l_0] using this
      · by_cases q2 : sd s (v.1 4) = 0
        · have := go true (by rw [q1, q2]; rfl)
          simpa [hnj, b2i, l_0, q2, l_1] using this
        · have := go false (by simp [q1, q2])
          simpa [hnj, b2i, l_0, q2] using this)
    (by
      rintro n ⟨x, o1⟩ ⟨hx, h1, h2, h3⟩
      have hx : x = nI (v.1 3) := hx
      subst hx
      have hM1 := Same.m0 (o' := o1) h1 hM
      refine ⟨o1, ?_, h1, h2, h3⟩
      show L_X8_orders_30_step (nI s) (L_X8_orders_30 (nI s) n) _ _ = _
      unfold L_X8_orders_30_step
      rw [hM1.2.2.2.1]
      simp (disch := omega) only [bd_s, nm_s, l_0, l_1, l_2, l_3, l_4, l_5, l_6, l_7, l_8, l_9, l_10, l_16, l_20, l_32, l_44, l_48, l_57, l_59, l_60, l_99, l_100, l_107, l_108, l_112, l_255, l_256, l_300, l_9999, le_nI, lt_nI, eq_nI, cl_nI, ck_nI, gd_d, b2i_z, b2i_o, has_c, has_m, bit_c, within_c, nI_add, if_pos, if_neg, nI_or, nI_and, sh1_nI, pk_sub, gd_ckz]) (v.1 3) 0 (nI 0, sA o 23 s (nI 0)) 512 (by omega) (by omega) ⟨rfl, Same.set (by omega), fun t ht => by show (sA o 23 s (nI 0)).2 23 t = _; rw [tbl_upd, if_neg ht], by show (sA o 23 s (nI 0)).2 23 s = _; rw [tbl_upd, if_pos rfl]; rfl⟩
  exact key
theorem orders_m {o0 : Ob} {v : TV} (hM0 : M0 o0 v) (hv : TOK v) : ∃ (C : Nat → Int32) (o' : Ob), f_X8_orders o0 = some (C (v.1 4), o') ∧ Same o0 o' ∧ C 0 = nI 1 ∧ ∀ s, 1 ≤ s → inK v s → C s = mW v C s := by
  have htd := hv.td
  have h8 := hv.2.2.2.1
  have hpw : 2 ^ v.1 3 ≤ 256 := Nat.pow_le_pow_right (n := 2) (i := v.1 3) (j := 8) (by omega) h8
  have hp1 : 1 ≤ 2 ^ v.1 3 := Nat.one_le_two_pow
  have key := loop_ex (fun n (x : Int32 × Ob) => L_X8_orders_9 n x.1 x.2) (fun j x => 1 ≤ j ∧ x.1 = nI j ∧ Same o0 x.2 ∧ x.2.2 23 0 = nI 1 ∧ ∀ s, 1 ≤ s → s < j → x.2.2 23 s = mW v (x.2.2 23) s) (fun o' => Same o0 o' ∧ o'.2 23 0 = nI 1 ∧ ∀ s, 1 ≤ s → s < 2 ^ v.1 3 → o'.2 23 s = mW v (o'.2 23) s) (2 ^ v.1 3)
    (by
      rintro n j ⟨x, o⟩ hj ⟨h1, hx, hsm, h2, h3⟩
      have hx : x = nI j := hx
      subst hx
      have hsm : Same o0 o := hsm
      have h2 : o.2 23 0 = nI 1 := h2
      have h3 : ∀ s, 1 ≤ s → s < j → o.2 23 s = mW v (o.2 23) s := h3
      have hM := hsm.m0 hM0
      obtain ⟨o', r1, r2, r3, r4⟩ := row_m hM hv h1 (show inK v j from hj)
      refine ⟨(nI (j + 1), o'), ?_, by omega, rfl, hsm.tr r2, ?_, fun s hs1 hs2 => ?_⟩
      · show L_X8_orders_9_step (L_X8_orders_9 n) _ _ = L_X8_orders_9 n _ _
        unfold L_X8_orders_9_step
        rw [hM.2.2.2.1]
        simp (disch := omega) only [bd_s, nm_s, l_0, l_1, l_2, l_3, l_4, l_5, l_6, l_7, l_8, l_9, l_10, l_16, l_20, l_32, l_44, l_48, l_57, l_59, l_60, l_99, l_100, l_107, l_108, l_112, l_255, l_256, l_300, l_9999, le_nI, lt_nI, eq_nI, cl_nI, ck_nI, gd_d, b2i_z, b2i_o, has_c, has_m, bit_c, within_c, nI_add, if_pos, if_neg, nI_or, nI_and, sh1_nI, pk_sub, gd_ckz, r1]
      · show o'.2 23 0 = nI 1
        rw [r3 0 (by omega)]; exact h2
      · show o'.2 23 s = mW v (o'.2 23) s
        have : mW v (o'.2 23) s = mW v (o.2 23) s := mW_congr (by omega) (fun t ht => r3 t (by omega))
        rw [this]
        by_cases q : s = j
        · rw [q]; exact r4
        · rw [r3 s q]; exact h3 s hs1 (by omega))
    (by
      rintro n ⟨x, o⟩ ⟨h1, hx, hsm, h2, h3⟩
      have hx : x = nI (2 ^ v.1 3) := hx
      subst hx
      have hM := Same.m0 (o' := o) hsm hM0
      refine ⟨o, ?_, hsm, h2, h3⟩
      show L_X8_orders_9_step (L_X8_orders_9 n) _ _ = _
      unfold L_X8_orders_9_step
      rw [hM.2.2.2.1]
      simp (disch := omega) only [bd_s, nm_s, l_0, l_1, l_2, l_3, l_4, l_5, l_6, l_7, l_8, l_9, l_10, l_16, l_20, l_32, l_44, l_48, l_57, l_59, l_60, l_99, l_100, l_107, l_108, l_112, l_255, l_256, l_300, l_9999, le_nI, lt_nI, eq_nI, cl_nI, ck_nI, gd_d, b2i_z, b2i_o, has_c, has_m, bit_c, within_c, nI_add, if_pos, if_neg, nI_or, nI_and, sh1_nI, pk_sub, gd_ckz]) (2 ^ v.1 3 - 1) 1 (nI 1, sA o0 23 0 (nI 1)) 512 (by omega) (by omega) ⟨by omega, rfl, Same.set (by omega), by show (sA o0 23 0 (nI 1)).2 23 0 = _; rw [tbl_upd, if_pos rfl], fun s h1 h2 => by omega⟩
  obtain ⟨o', h1, h0, h2, h3⟩ := key
  have h1 : L_X8_orders_9 512 (nI 1) (sA o0 23 0 (nI 1)) = some o' := h1
  refine ⟨o'.2 23, o', ?_, h0, h2, h3⟩
  unfold f_X8_orders
  simp (disch := omega) only [bd_s, nm_s, l_0, l_1, l_2, l_3, l_4, l_5, l_6, l_7, l_8, l_9, l_10, l_16, l_20, l_32, l_44, l_48, l_57, l_59, l_60, l_99, l_100, l_107, l_108, l_112, l_255, l_256, l_300, l_9999, le_nI, lt_nI, eq_nI, cl_nI, ck_nI, gd_d, b2i_z, b2i_o, has_c, has_m, bit_c, within_c, nI_add, if_pos, if_neg, nI_or, nI_and, sh1_nI, pk_sub, gd_ckz, h1, (h0.m0 hM0).2.2.2.2.1]
theorem nab_tb {v : TV} {s j : Nat} : ∀ n, nab v s j n = true ↔ ∀ i, i < n → s.testBit i = true → (v.2 2 i).testBit j = false
  | 0 => ⟨fun _ i h => by omega, fun _ => rfl⟩
  | n + 1 => by
    rw [nab, Bool.and_eq_true, nab_tb n]
    constructor
    · rintro ⟨h1, h2⟩ i hi hs
      by_cases q : i = n
      · subst q
        rw [hs] at h2
        simpa using h2
      · exact h1 i (by omega) hs
    · intro h
      refine ⟨fun i hi => h i (by omega), ?_⟩
      cases q : s.testBit n
      · rfl
      · rw [h n (by omega) q]; rfl
/-- closed below, among the tied ones -/
def dwn (v : TV) (s : Nat) : Prop := ∀ j, s.testBit j = true → ∀ i, (v.2 2 j).testBit i = true → (v.1 4).testBit i = true → s.testBit i = true
theorem th_lt {v : TV} (hv : TOK v) {j i : Nat} (hj : j < v.1 3) (h : (v.2 2 j).testBit i = true) : i < j := by
  rcases Nat.lt_or_ge i j with q | q
  · exact q
  · rw [Nat.testBit_lt_two_pow (Nat.lt_of_lt_of_le (hv.2.2.2.2.2.2 j hj).2.2.2.1 (Nat.pow_le_pow_right (n := 2) (by omega) q))] at h; cases h
theorem tables {v : TV} (hv : TOK v) {C M : Nat → Int32} (hC0 : C 0 = nI 1) (hC : ∀ s, 1 ≤ s → s < 256 → C s = cW v C s) (hM0 : M 0 = nI 1) (hM : ∀ s, 1 ≤ s → inK v s → M s = mW v M s) : ∀ n s, s < n → s < 256 → sd s (v.1 4) = 0 → (dwn v s → C s = M s) ∧ (¬ dwn v s → C s = nI 0) := by
  have htd := hv.td
  have h8 := hv.2.2.2.1
  intro n
  induction n with
  | zero => intro s h; omega
  | succ n ih =>
    intro s hsn hs hsub
    have sub := (sd_zero hs).mp hsub
    have hsK : inK v s := sub.inK (v := v) hv.2.2.2.2.1
    rcases Nat.eq_zero_or_pos s with q | q
    · subst q
      exact ⟨fun _ => by rw [hC0, hM0], fun h => absurd (show dwn v 0 from fun j hj => by simp at hj) h⟩
    · rw [hC s q hs]
      unfold cW
      rw [if_pos hsub]
      have low : ∀ j, s.testBit j = true → (dwn v (sd s (2 ^ j)) → C (sd s (2 ^ j)) = M (sd s (2 ^ j))) ∧ (¬ dwn v (sd s (2 ^ j)) → C (sd s (2 ^ j)) = nI 0) := by
        intro j hj
        have hlt := sd_bit_lt hs hj
        refine ih _ (by omega) (by omega) ?_
        rw [sd_zero (by omega)]
        intro i hi
        rw [sd_tb hs, Bool.and_eq_true] at hi
        exact sub i hi.1
      refine ⟨fun hd => ?_, fun hd => ?_⟩
      · rw [hM s q hsK]
        unfold mW
        have e8 : wsum (fun j => (s.testBit j && decide (sd s (v.1 4) = 0)) && nab v s j (v.1 3)) (fun j => M (sd s (2 ^ j))) (v.1 3) = wsum (fun j => (s.testBit j && decide (sd s (v.1 4) = 0)) && nab v s j (v.1 3)) (fun j => M (sd s (2 ^ j))) 8 := by
          have hh := wsum_more (p := fun j => (s.testBit j && decide (sd s (v.1 4) = 0)) && nab v s j (v.1 3)) (g := fun j => M (sd s (2 ^ j))) (n := v.1 3) (fun j hj hp => by
            simp only [Bool.and_eq_true] at hp
            have := hsK.tb hp.1.1
            omega) (8 - v.1 3)
          rw [show v.1 3 + (8 - v.1 3) = 8 by omega] at hh
          exact hh.symm
        rw [e8]
        refine wsum_filter 8 (fun j hj hq => ?_) (fun j hj hp hq => ?_)
        · simp only [Bool.and_eq_true] at hq
          have hst := hq.1.1
          have hn := (nab_tb _).mp hq.2
          refine ⟨?_, ?_⟩
          · simp only [Bool.and_eq_true, decide_eq_true_iff]
            refine ⟨hst, ?_⟩
            rw [sd_zero (and_lt8 _ (hv.th (hsK.tb hst)))]
            intro i hi
            rw [Nat.testBit_and, Bool.and_eq_true] at hi
            exact hd j hst i hi.1 hi.2
          · show C (sd s (2 ^ j)) = M (sd s (2 ^ j))
            refine (low j hst).1 ?_
            intro a ha i hi ht
            rw [sd_tb hs, pw_tb] at ha ⊢
            simp only [Bool.and_eq_true] at ha ⊢
            refine ⟨hd a ha.1 i hi ht, ?_⟩
            have : ¬ j = i := fun e => by
              subst e
              rw [hn a (hsK.tb ha.1) ha.1] at hi; cases hi
            simp [this]
        · simp only [Bool.and_eq_true, decide_eq_true_iff] at hp
          have hst := hp.1
          show C (sd s (2 ^ j)) = nI 0
          have hnn : ¬ nab v s j (v.1 3) = true := fun e => by simp [hst, hsub, e] at hq
          rw [nab_tb] at hnn
          refine (low j hst).2 ?_
          intro hdd
          apply hnn
          intro i hi hsi
          cases hti : (v.2 2 i).testBit j
          · rfl
          · exfalso
            have hlt := th_lt hv hi hti
            have h1 : (sd s (2 ^ j)).testBit i = true := by
              rw [sd_tb hs, hsi, pw_tb]
              have : ¬ j = i := by omega
              simp [this]
            have h2 := hdd i h1 j hti (sub j hst)
            rw [sd_tb hs, pw_tb] at h2
            simp at h2
      · refine wsum_zero 8 (fun j hj hp => ?_)
        simp only [Bool.and_eq_true, decide_eq_true_iff] at hp
        show C (sd s (2 ^ j)) = nI 0
        refine (low j hp.1).2 ?_
        intro hdd
        apply hd
        intro a ha i hi ht
        have hx := (sd_zero (and_lt8 _ (hv.th (hsK.tb hp.1)))).mp hp.2
        by_cases qa : a = j
        · subst qa
          exact hx i (by rw [Nat.testBit_and, hi, ht]; rfl)
        · have h1 : (sd s (2 ^ j)).testBit a = true := by
            rw [sd_tb hs, ha, pw_tb]
            have : ¬ j = a := fun e => qa e.symm
            simp [this]
          have h2 := hdd a h1 i hi ht
          rw [sd_tb hs, Bool.and_eq_true] at h2
          exact h2.1
theorem orders_both {X : Nat → Ob} {o : Ob} {v : TV} (hT : TC (X 2) v) (hM : M0 o v) (hv : TOK v) : ∃ r T o', f_X7_orders X = some (r, sX X 8 T) ∧ f_X8_orders o = some (r, o') ∧ Same o o' := by
  obtain ⟨C, T, c1, c2, c3⟩ := orders_c (o0 := X 8) hT hv
  obtain ⟨M, o', m1, m2, m3, m4⟩ := orders_m hM hv
  have htd := hv.td
  have hz : sd (v.1 4) (v.1 4) = 0 := (sd_zero htd).mpr (fun _ h => h)
  have e := (tables hv c2 c3 m3 m4 (v.1 4 + 1) (v.1 4) (by omega) htd hz).1 (by intro j hj i hi ht; exact ht)
  refine ⟨C (v.1 4), T, o', ?_, ?_, m2⟩
  · unfold f_X7_orders
    rw [c1]; rfl
  · rw [m1, e]
