/-! ===== knots undone (own text) ===== -/
def RV (v : TV) (X : Nat → Ob) (o : Ob) : Prop := RT (X 2) o v ∧ (∃ n B, TX (X 0) o n B) ∧ (∃ m W, RR 0 (X 10) (o.2 18) (o.2 19) m W) ∧ (∃ m W, RR 1 (X 11) (o.2 18) (o.2 19) m W) ∧ (∃ rn R, RW (X 9) (o.1 16) (o.2 17) (v.1 3) rn R) ∧ (∃ pn K S D, RP (X 7) (o.1 14) (o.2 15) (v.1 3) pn K S D) ∧ ∃ kn U, RK (X 4) (X 5) (X 6) o v kn U
def vT (v : TV) (t : Nat) : TV := (fun i => if i = 4 then t else v.1 i, v.2)
theorem vT_ok {v : TV} (hv : TOK v) {t : Nat} (ht : t < 2 ^ v.1 3) : TOK (vT v t) := by
  obtain ⟨h0, h1, h2, h3, h4, h5, h6⟩ := hv
  exact ⟨h0, h1, h2, h3, ht, h5, h6⟩
theorem vT_c {T : Ob} {v : TV} (hT : TC T v) {t : Nat} : TC (sF T 10 (nI t)) (vT v t) := by
  obtain ⟨c0, c1, c2, c3, c4, c5, c6⟩ := hT
  exact ⟨c0, c1, c2, c3, rfl, c5, c6⟩
theorem RK.v {A B C o o' : Ob} {v v' : TV} {kn : Nat} {U : Nat → TV} (hk : RK A B C o v kn U) (hf : FB 0 o o' ∨ FB 0 o' o) (e0 : v'.1 0 = v.1 0) (e1 : v'.1 1 = v.1 1) (e2 : v'.1 2 = v.1 2) (hf : FB 0 o o') : RK A B C o' v' kn U := by
  obtain ⟨a1, a2, a3, a4, a5, a6⟩ := hk
  refine ⟨a1, a2, by rw [hf.1]; exact a3, fun i hi => ⟨by rw [e0, e1, e2]; exact (a4 i hi).1, (a4 i hi).2.1, (a4 i hi).2.2.1, hf.mb (by omega) (a4 i hi).2.1.2.2.2.1 (a4 i hi).2.2.2⟩, a5, a6⟩
/-- a new past, a new town, the row as told or empty -/
theorem RV.next {v v' : TV} {X X' : Nat → Ob} {o o1 o' : Ob} (h : RV v X o) (h1 : ∀ i, i ≠ 14 → i ≠ 16 → o1.1 i = o.1 i) (h2 : ∀ i, i ≠ 15 → o1.2 i = o.2 i) (hf : FB 0 o1 o') (e0 : v'.1 0 = v.1 0) (e1 : v'.1 1 = v.1 1) (e2 : v'.1 2 = v.1 2) (hX : ∀ j, j ≠ 2 → j ≠ 7 → j ≠ 9 → X' j = X j) (ht : RT (X' 2) o' v') (hw : ∃ rn R, RW (X' 9) (o'.1 16) (o'.2 17) (v'.1 3) rn R) (hp : ∃ pn K S D, RP (X' 7) (o'.1 14) (o'.2 15) (v'.1 3) pn K S D) : RV v' X' o' := by
  obtain ⟨t, ⟨n, B, tx⟩, ⟨m, W, r0⟩, ⟨m', W', r1⟩, -, -, ⟨kn, U, rk⟩⟩ := h
  have w (i : Nat) (hi : ∀ j, ¬ tcb 0 i j) (hi2 : i ≠ 15) : o'.2 i = o.2 i := by
    rw [← h2 i hi2]
    exact funext (fun j => hf.2 i j (hi j))
  refine ⟨ht, ⟨n, B, ?_⟩, ⟨m, W, ?_⟩, ⟨m', W', ?_⟩, hw, hp, ⟨kn, U, ?_⟩⟩
  · rw [hX 0 (by omega) (by omega) (by omega)]
    obtain ⟨a, b, c, d⟩ := tx
    refine ⟨a, b, by rw [hf.1, h1 0 (by omega) (by omega)]; exact c, fun i hi => ⟨(d i hi).1, (d i hi).2.1, ?_⟩⟩
    rw [w 1 (fun j => by unfold tcb; omega) (by omega)]; exact (d i hi).2.2
  · rw [hX 10 (by omega) (by omega) (by omega), w 18 (fun j => by unfold tcb; omega) (by omega), w 19 (fun j => by unfold tcb; omega) (by omega)]; exact r0
  · rw [hX 11 (by omega) (by omega) (by omega), w 18 (fun j => by unfold tcb; omega) (by omega), w 19 (fun j => by unfold tcb; omega) (by omega)]; exact r1
  · rw [hX 4 (by omega) (by omega) (by omega), hX 5 (by omega) (by omega) (by omega), hX 6 (by omega) (by omega) (by omega)]
    have rk1 : RK (X 4) (X 5) (X 6) o1 v kn U := rk.eqs (fun j a b => h2 j (by omega)) (h1 13 (by omega) (by omega))
    exact rk1.v (Or.inl hf) e0 e1 e2 hf
theorem sX_ne {X : Nat → Ob} {k j : Nat} {T : Ob} (h : j ≠ k) : sX X k T j = X j := by
  show (if j = k then T else X j) = _
  rw [if_neg h]
theorem sX_eq {X : Nat → Ob} {k : Nat} {T : Ob} : sX X k T k = T := by
  show (if k = k then T else X k) = _
  rw [if_pos rfl]
theorem take_both {X : Nat → Ob} {o : Ob} {v : TV} (h : RV v X o) {s : Nat} (hs : s < 256) : ∃ X' o', f_X7_removeTied X (nI s) = some (nI (pc s), X') ∧ f_X8_takeOut o (nI s) = some (nI (pc s), o') ∧ RV (vT v (sd (v.1 4) s)) X' o' := by
  obtain ⟨ht, -, -, -, ⟨rn, R, hw⟩, ⟨pn, K, S, D, hp⟩, -⟩ := id h
  have hv := ht.2.2.1
  have htd := hv.td
  obtain ⟨T', o1, pn', K', S', D', n1, n2, n3, n4, n5⟩ := note_both hp ht.1 ht.m hv ht.2.2.2
  have hts : sd (v.1 4) s < 2 ^ v.1 3 := Nat.lt_of_le_of_lt Nat.and_le_left hv.2.2.2.2.1
  have fb : FB 0 o1 (sA o1 11 0 (nI (sd (v.1 4) s))) := FB.sA (by unfold tcb; omega)
  refine ⟨sX (sX X 7 T') 2 (sF (X 2) 10 (nI (sd (v.1 4) s))), sA o1 11 0 (nI (sd (v.1 4) s)), ?_, ?_, h.next (fun i a _ => n4 i a) n5 fb rfl rfl rfl (fun j a b c => ?_) ?_ ⟨rn, R, ?_⟩ ⟨pn', K', S', D', ?_⟩⟩
  · unfold f_X7_removeTied
    rw [n1, bd_s, nm_s, sX_ne (by omega), ht.1.2.2.2.2.1, nI_andn s htd, nm_s, bits_c s hs, bd_s]
  · unfold f_X8_takeOut
    rw [n2, bd_s, n5 11 (by omega), ht.m.2.2.2.2.1, nI_andn s htd, nm_s, bits_m s hs, bd_s]
  · rw [sX_ne a, sX_ne b]
  · rw [sX_eq]
    refine ⟨vT_c ht.1, ?_, vT_ok hv hts, ht.2.2.2⟩
    have m1 : MB o1 0 0 v := MB.eqs (fun j a b => n5 j (by omega)) ht.2.1
    obtain ⟨c0, c1, c2, c3, c4, c5, c6⟩ := m1
    exact ⟨c0, c1, c2, c3, by rw [sA2, if_pos ⟨rfl, rfl⟩]; rfl, c5, c6⟩
  · rw [sX_ne (by omega), sX_ne (by omega)]
    have e1 : (sA o1 11 0 (nI (sd (v.1 4) s))).1 16 = o.1 16 := n4 16 (by omega)
    have e2 : (sA o1 11 0 (nI (sd (v.1 4) s))).2 17 = o.2 17 := n5 17 (by omega)
    rw [e1, e2]; exact hw
  · rw [sX_ne (by omega), sX_eq]
    exact n3
theorem s_undo : Sim_undo Rl := fun X o h x => by
  obtain ⟨v, hv0⟩ := id h
  have hr : RV v X o := hv0
  have ht := hr.1
  have hv := ht.2.2.1
  have hM := ht.m
  have h8 := hv.2.2.2.1
  have htd := hv.td
  have hdy := hv.2.2.2.2.2.1
  have hal := hv.al
  unfold f_X7_undo f_X8_undo
  rw [isKnot_c ht.1 hv, there_m hM hv, bd_s, bd_s]
  cases q : inb x (v.1 3)
  · exact ⟨(-1 : Int32), X, o, rfl, rfl, h⟩
  · obtain ⟨k, hk, rfl⟩ := inb_of (by omega) q
    rw [if_neg (show ¬ b2i true = (0 : Int32) by decide), if_neg (show ¬ b2i true = (0 : Int32) by decide), ht.1.2.2.2.2.1, today_c ht.1 hv (by omega) (show inK v (v.1 4) from hv.2.2.2.2.1), bd_s, hM.2.2.2.2.1, hM.2.1, hM.2.2.2.2.2.1, may_m hM hv hk (show inK v (v.1 4) from hv.2.2.2.2.1) (by omega) (by omega), bd_s]
    cases q2 : may v k (v.1 4) (v.1 5) (v.1 1)
    · exact ⟨(-2 : Int32), X, o, rfl, rfl, h⟩
    · obtain ⟨X', o', a, b, c⟩ := take_both hr (s := 2 ^ k) (pw_lt8 (by omega))
      rw [if_neg (show ¬ b2i true = (0 : Int32) by decide), if_neg (show ¬ b2i true = (0 : Int32) by decide), bit_c (by omega), bd_s, a, bd_s, l_1, sh1_nI (by omega), b, bd_s]
      have e1 : (X' 2).1 10 = nI (sd (v.1 4) (2 ^ k)) := c.1.1.2.2.2.2.1
      have e2 : o'.2 11 0 = nI (sd (v.1 4) (2 ^ k)) := c.1.m.2.2.2.2.1
      have hl := sd_lt8 (2 ^ k) htd
      refine ⟨nI (pc (sd (v.1 4) (2 ^ k))), X', o', ?_, ?_, ⟨_, c⟩⟩
      · show bd (f_J6_bitCount_0f7a4 ((X' 2).1 10)) _ = _
        rw [e1, bits_c _ hl]; rfl
      · show bd (f_X8_bits (o'.2 11 0)) _ = _
        rw [e2, bits_m _ hl]; rfl
theorem s_cut : Sim_cut Rl := fun X o h x => by
  obtain ⟨v, hv0⟩ := id h
  have hr : RV v X o := hv0
  have ht := hr.1
  have hv := ht.2.2.1
  have hM := ht.m
  have h8 := hv.2.2.2.1
  have htd := hv.td
  unfold f_X7_cut f_X8_cut
  rw [isKnot_c ht.1 hv, there_m hM hv, bd_s, bd_s]
  cases q : inb x (v.1 3)
  · exact ⟨(-1 : Int32), X, o, rfl, rfl, h⟩
  · obtain ⟨k, hk, rfl⟩ := inb_of (by omega) q
    rw [if_neg (show ¬ b2i true = (0 : Int32) by decide), if_neg (show ¬ b2i true = (0 : Int32) by decide), ht.1.2.2.2.2.1, hM.2.2.2.2.1, has_c (by omega) (by omega), has_m (by omega) (by omega), bd_s, bd_s]
    cases q2 : (v.1 4).testBit k
    · exact ⟨(-2 : Int32), X, o, rfl, rfl, h⟩
    · have hal := abv_lt v k 8
      have hs : 2 ^ k ||| abv v k 8 < 256 := or_lt8 (pw_lt8 (by omega)) hal
      obtain ⟨X', o', a, b, c⟩ := take_both hr (s := 2 ^ k ||| abv v k 8) hs
      rw [if_neg (show ¬ b2i true = (0 : Int32) by decide), if_neg (show ¬ b2i true = (0 : Int32) by decide), bit_c (by omega), bd_s, above_c ht.1 hv (by omega), bd_s, nI_or, a, bd_s, above_m hM hv (by omega), bd_s, l_1, sh1_nI (by omega), nI_or, Nat.or_comm (abv v k 8), b, bd_s]
      exact ⟨_, X', o', rfl, rfl, ⟨_, c⟩⟩
def akd (v : TV) (s : Nat) : Nat → Bool
  | 0 => true
  | j + 1 => akd v s j && (!s.testBit j || decide (v.2 4 j = 1))
theorem akd_tb {v : TV} {s : Nat} : ∀ n, akd v s n = true ↔ ∀ j, j < n → s.testBit j = true → v.2 4 j = 1
  | 0 => ⟨fun _ j h => by omega, fun _ => rfl⟩
  | n + 1 => by
    rw [akd, Bool.and_eq_true, akd_tb n, Bool.or_eq_true, decide_eq_true_iff]
    constructor
    · rintro ⟨h1, h2⟩ j hj hs
      by_cases q : j = n
      · subst q
        rcases h2 with h2 | h2
        · rw [hs] at h2; cases h2
        · exact h2
      · exact h1 j (by omega) hs
    · intro h
      refine ⟨fun j hj => h j (by omega), ?_⟩
      cases q : s.testBit n
      · exact Or.inl rfl
      · exact Or.inr (h n (by omega) q)
theorem pull_m {o : Ob} {v : TV} (hM : M0 o v) (hv : TOK v) {s : Nat} (hs : s < 256) (k : Bool) : L_X8_pull_40 (nI s) o 512 (b2i k) (0 : Int32) = some (b2i (k && akd v s (v.1 3))) := by
  have h8 := hv.2.2.2.1
  have key := loop_up (fun n (x : Int32 × Int32) => L_X8_pull_40 (nI s) o n x.1 x.2) (fun j (_ : Unit) => (b2i (k && akd v s j), nI j)) (fun _ u => u) (fun _ => b2i (k && akd v s (v.1 3))) (v.1 3) (fun j _ => True)
    (by
      intro n j u hj _
      refine ⟨?_, trivial⟩
      show L_X8_pull_40_step (nI s) o (L_X8_pull_40 (nI s) o n) _ _ = L_X8_pull_40 (nI s) o n _ _
      unfold L_X8_pull_40_step
      have hjj := hM.2.2.2.2.2.2 j hj
      have hok := hv.2.2.2.2.2.2 j hj
      rw [hM.2.2.2.1, akd]
      simp (disch := omega) only [bd_s, nm_s, l_0, l_1, l_2, l_3, l_4, l_5, l_6, l_7, l_8, l_9, l_10, l_16, l_20, l_32, l_44, l_48, l_57, l_59, l_60, l_99, l_100, l_107, l_108, l_112, l_255, l_256, l_300, l_9999, le_nI, lt_nI, eq_nI, cl_nI, ck_nI, gd_d, b2i_z, b2i_o, has_c, has_m, bit_c, within_c, nI_add, if_pos, if_neg, nI_or, nI_and, sh1_nI, pk_sub, gd_ckz, hjj.2.2.2.2]
      cases k
      · simp [b2i]; rfl
      · cases q1 : akd v s j
        · simp [b2i]; rfl
        · cases q2 : s.testBit j
          · simp [b2i]; rfl
          · by_cases q3 : v.2 4 j = 1 <;> simp [q3, b2i] <;> rfl)
    (by
      intro n u _
      show L_X8_pull_40_step (nI s) o (L_X8_pull_40 (nI s) o n) _ _ = _
      unfold L_X8_pull_40_step
      rw [hM.2.2.2.1]
      simp (disch := omega) only [bd_s, nm_s, l_0, l_1, l_2, l_3, l_4, l_5, l_6, l_7, l_8, l_9, l_10, l_16, l_20, l_32, l_44, l_48, l_57, l_59, l_60, l_99, l_100, l_107, l_108, l_112, l_255, l_256, l_300, l_9999, le_nI, lt_nI, eq_nI, cl_nI, ck_nI, gd_d, b2i_z, b2i_o, has_c, has_m, bit_c, within_c, nI_add, if_pos, if_neg, nI_or, nI_and, sh1_nI, pk_sub, gd_ckz]) (v.1 3) 0 () 512 (by omega) (by omega) trivial
  obtain ⟨_, h1, -⟩ := key
  have h2 : L_X8_pull_40 (nI s) o 512 (b2i (k && true)) (0 : Int32) = some (b2i (k && akd v s (v.1 3))) := h1
  rwa [Bool.and_true] at h2
theorem s_pull : Sim_pull Rl := fun X o h x => by
  obtain ⟨v, hv0⟩ := id h
  have hr : RV v X o := hv0
  have ht := hr.1
  have hv := ht.2.2.1
  have hM := ht.m
  have h8 := hv.2.2.2.1
  have htd := hv.td
  unfold f_X7_pull f_X8_pull
  rw [isKnot_c ht.1 hv, there_m hM hv, bd_s, bd_s]
  cases q : inb x (v.1 3)
  · exact ⟨(-1 : Int32), X, o, rfl, rfl, h⟩
  · obtain ⟨k, hk, rfl⟩ := inb_of (by omega) q
    have hal := abv_lt v k 8
    have hs : 2 ^ k ||| abv v k 8 < 256 := or_lt8 (pw_lt8 (by omega)) hal
    rw [if_neg (show ¬ b2i true = (0 : Int32) by decide), if_neg (show ¬ b2i true = (0 : Int32) by decide), bit_c (by omega), bd_s, above_c ht.1 hv (by omega), bd_s, nI_or, nm_s, ht.1.2.2.2.2.1, hM.2.2.2.2.1, has_c (by omega) (by omega), bd_s, above_m hM hv (by omega), bd_s, l_1, sh1_nI (by omega), nI_or, Nat.or_comm (abv v k 8), nm_s, has_m (by omega) (by omega), bd_s, pull_m hM hv hs, bd_s, kinds_c ht.1 hv (by omega), bd_s, within_c _ hs, bd_s]
    have eq : (v.1 4).testBit k = true → (akd v (2 ^ k ||| abv v k 8) (v.1 3) = decide (sd (2 ^ k ||| abv v k 8) (kinds v 1) = 0)) := by
      intro hkt
      rw [Bool.eq_iff_iff, akd_tb, decide_eq_true_iff, sd_zero hs]
      have inn : ∀ j, (2 ^ k ||| abv v k 8).testBit j = true → j < v.1 3 := by
        intro j hj
        rw [Nat.testBit_or, Bool.or_eq_true, pw_tb, decide_eq_true_iff] at hj
        rcases hj with rfl | hj
        · exact hk
        · rw [abv_tb] at hj
          simp only [Bool.and_eq_true] at hj
          exact inK.tb (v := v) hv.2.2.2.2.1 hj.2.1
      constructor
      · intro hh j hj
        have hjn := inn j hj
        unfold kinds
        rw [msk_tb]
        have := hh j hjn hj
        simp [this, hjn]; omega
      · intro hh j hjn hj
        have := hh j hj
        unfold kinds at this
        rw [msk_tb] at this
        simp only [Bool.and_eq_true, decide_eq_true_iff] at this
        exact this.2.2
    cases q2 : (v.1 4).testBit k
    · exact ⟨(-2 : Int32), X, o, rfl, rfl, h⟩
    · rw [eq q2, Bool.true_and, if_neg (show ¬ b2i true = (0 : Int32) by decide)]
      by_cases q3 : sd (2 ^ k ||| abv v k 8) (kinds v 1) = 0
      · obtain ⟨X', o', a, b, c⟩ := take_both hr (s := 2 ^ k ||| abv v k 8) hs
        rw [decide_eq_true q3, if_neg (show ¬ b2i true = (0 : Int32) by decide), if_neg (show ¬ b2i true = (0 : Int32) by decide), a, b]
        exact ⟨_, X', o', rfl, rfl, ⟨_, c⟩⟩
      · rw [decide_eq_false q3]
        exact ⟨(-2 : Int32), X, o, rfl, rfl, h⟩
