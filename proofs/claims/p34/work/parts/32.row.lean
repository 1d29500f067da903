/-! ===== the row, looks (own text) ===== -/
theorem pigeon : ∀ (N m : Nat) (f : Nat → Nat), (∀ i, i < m → f i < N) → (∀ i j, i < j → j < m → f i ≠ f j) → m ≤ N
  | 0, m, f, h1, _ => by
    rcases Nat.eq_zero_or_pos m with q | q
    · omega
    · have := h1 0 q; omega
  | N + 1, m, f, h1, h2 => by
    by_cases hx : ∃ i, i < m ∧ f i = N
    · obtain ⟨i0, hi0, he⟩ := hx
      have := pigeon N (m - 1) (fun j => if j < i0 then f j else f (j + 1)) (fun i hi => by
        show (if i < i0 then f i else f (i + 1)) < N
        split
        · rename_i c
          have a := h1 i (by omega)
          have b := h2 i i0 c hi0
          omega
        · rename_i c
          have a := h1 (i + 1) (by omega)
          have b := h2 i0 (i + 1) (by omega) (by omega)
          omega) (fun i j hij hj => by
        show (if i < i0 then f i else f (i + 1)) ≠ (if j < i0 then f j else f (j + 1))
        split
        · split
          · exact h2 i j hij (by omega)
          · exact h2 i (j + 1) (by omega) (by omega)
        · split
          · omega
          · exact h2 (i + 1) (j + 1) (by omega) (by omega))
      omega
    · have := pigeon N m f (fun i hi => by
        have a := h1 i hi
        have b : f i ≠ N := fun e => hx ⟨i, hi, e⟩
        omega) h2
      omega
/-- the set of what is told from i on, d of them -/
def os (R : Nat → Nat) (i : Nat) : Nat → Nat
  | 0 => 0
  | d + 1 => os R i d ||| 2 ^ R (i + d)
theorem os_lt {R : Nat → Nat} {i : Nat} : ∀ d, (∀ j, j < d → R (i + j) < 8) → os R i d < 256
  | 0, _ => by simp [os]
  | d + 1, h => by
    rw [os]
    exact or_lt8 (os_lt d (fun j hj => h j (by omega))) (pw_lt8 (h d (by omega)))
theorem os_tb {R : Nat → Nat} {i k : Nat} : ∀ d, (os R i d).testBit k = true ↔ ∃ j, j < d ∧ R (i + j) = k
  | 0 => by simp [os]
  | d + 1 => by
    rw [os, Nat.testBit_or, Bool.or_eq_true, os_tb d, pw_tb, decide_eq_true_iff]
    constructor
    · rintro (⟨j, h1, h2⟩ | h)
      · exact ⟨j, by omega, h2⟩
      · exact ⟨d, by omega, h⟩
    · rintro ⟨j, h1, h2⟩
      by_cases q : j = d
      · subst q; exact Or.inr h2
      · exact Or.inl ⟨j, by omega, h2⟩
theorem set_c {T : Ob} {a : Int32} {b : Nat → Int32} {nk rn : Nat} {R : Nat → Nat} (h : RW T a b nk rn R) (h8 : nk ≤ 8) {i : Nat} (hi : i ≤ rn) : f_X4_setFrom T (nI i) = some (nI (os R i (rn - i))) := by
  obtain ⟨h0, h1, h2, h3, h4⟩ := h
  have key := loop_up (fun n (x : Int32 × Int32) => L_X4_setFrom_4 T n x.1 x.2) (fun d (_ : Unit) => (nI (os R i d), nI (i + d))) (fun _ u => u) (fun _ => nI (os R i (rn - i))) (rn - i) (fun j _ => True)
    (by
      intro n d u hd _
      refine ⟨?_, trivial⟩
      show L_X4_setFrom_4_step T (L_X4_setFrom_4 T n) _ _ = L_X4_setFrom_4 T n _ _
      unfold L_X4_setFrom_4_step
      have e := h3 (i + d) (by omega)
      have hl : os R i d < 256 := os_lt d (fun j hj => by have := (h3 (i + j) (by omega)).1; omega)
      rw [h1, os, if_neg (by rw [nI_leI (by omega) (by omega)]; omega), if_neg (by rw [l_8, nI_leI (by omega) (by omega)]; omega), cl_nI (by omega), ck_nI (by omega), gd_d (by omega), e.2.1, bit_c (by omega), bd_s, nm_s, nm_s, nI_or, l_1, nI_add]
      rfl)
    (by
      intro n u _
      show L_X4_setFrom_4_step T (L_X4_setFrom_4 T n) _ _ = _
      unfold L_X4_setFrom_4_step
      rw [h1, if_pos (nI_le (by omega) (by omega))]) (rn - i) 0 () 512 (by omega) (by omega) trivial
  obtain ⟨_, k1, -⟩ := key
  have k1 : L_X4_setFrom_4 T 512 (0 : Int32) (nI i) = some (nI (os R i (rn - i))) := k1
  unfold f_X4_setFrom
  rw [k1]; rfl
theorem Rl.row {X X' : Nat → Ob} {o o' : Ob} (h : Rl X o) (hX : ∀ j, j ≠ 9 → X' j = X j) (h1 : ∀ i, i ≠ 16 → o'.1 i = o.1 i) (h2 : ∀ i, i ≠ 17 → o'.2 i = o.2 i) (hr : ∀ nk rn R, RW (X 9) (o.1 16) (o.2 17) nk rn R → (∀ v, TOK v → v.1 3 = nk → M0 o v → ∃ rn R, RW (X' 9) (o'.1 16) (o'.2 17) nk rn R)) : Rl X' o' := by
  obtain ⟨v, t, ⟨n, B, tx⟩, r0, r1, ⟨rn, R, rw'⟩, rp, ⟨kn, U, rk⟩⟩ := h
  have he : ∀ j, 2 ≤ j → j ≤ 12 → o'.2 j = o.2 j := fun j a b => h2 j (by omega)
  refine ⟨v, ?_, ⟨n, B, ?_⟩, ?_, ?_, ?_, ?_, ⟨kn, U, ?_⟩⟩
  · rw [hX 2 (by omega)]; exact t.eqs he
  · rw [hX 0 (by omega)]
    obtain ⟨a, b, c, d⟩ := tx
    exact ⟨a, b, (h1 0 (by omega)).trans c, fun i hi => ⟨(d i hi).1, (d i hi).2.1, by rw [h2 1 (by omega)]; exact (d i hi).2.2⟩⟩
  · rw [hX 10 (by omega), h2 18 (by omega), h2 19 (by omega)]; exact r0
  · rw [hX 11 (by omega), h2 18 (by omega), h2 19 (by omega)]; exact r1
  · exact hr _ rn R rw' v t.2.2.1 rfl t.m
  · rw [hX 7 (by omega), h1 14 (by omega), h2 15 (by omega)]; exact rp
  · rw [hX 4 (by omega), hX 5 (by omega), hX 6 (by omega)]; exact rk.eqs he (h1 13 (by omega))
theorem s_noRow : Sim_noRow Rl := fun X o h => by
  obtain ⟨v, ht, -, -, -, ⟨rn, R, hw⟩, -⟩ := id h
  refine ⟨nI rn, sX X 9 (sF (X 9) 1 (nI 0)), sF o 16 (nI 0), ?_, ?_, h.row (fun j hj => ?_) (fun i hi => ?_) (fun _ _ => rfl) (fun nk _ _ _ v _ _ _ => ⟨0, fun _ => 0, by omega, rfl, rfl, fun i hi => by omega, fun i j _ hj => by omega⟩)⟩
  · show some ((X 9).1 1, _) = _
    rw [hw.2.1]; rfl
  · show some (o.1 16, _) = _
    rw [hw.2.2.1]; rfl
  · show (if j = 9 then _ else X j) = _
    rw [if_neg hj]
  · rw [sF1, if_neg hi]
theorem s_tell : Sim_tell Rl := fun X o h x => by
  obtain ⟨v, ht, -, -, -, ⟨rn, R, hw⟩, -⟩ := id h
  have h8 := ht.2.2.1.2.2.2.1
  unfold f_X7_tell f_X8_tell
  rw [isKnot_c ht.1 ht.2.2.1, there_m ht.m ht.2.2.1, bd_s, bd_s]
  cases q : inb x (v.1 3)
  · exact ⟨(-1 : Int32), X, o, rfl, rfl, h⟩
  · obtain ⟨k, hk, rfl⟩ := inb_of (by omega) q
    rw [if_neg (show ¬ b2i true = (0 : Int32) by decide), if_neg (show ¬ b2i true = (0 : Int32) by decide)]
    have hos : os R 0 rn < 256 := os_lt rn (fun j hj => by have := (hw.2.2.2.1 (0 + j) (by omega)).1; omega)
    have hh : f_X4_holds (X 9) (nI k) = some (b2i ((os R 0 rn).testBit k)) := by
      unfold f_X4_holds
      rw [show (0 : Int32) = nI 0 from rfl, set_c hw h8 (Nat.zero_le _), bd_s, Nat.sub_zero, has_c (by omega) (by omega), bd_s, gd_ckz]
    have hm : L_X8_tell_12 (nI k) o 512 (0 : Int32) = some (if (os R 0 rn).testBit k then 0 else 1) := by
      have main : ∀ d i n, i + d = rn → d < n → (∀ j, j < i → R j ≠ k) → L_X8_tell_12 (nI k) o n (nI i) = some (if (os R 0 rn).testBit k then 0 else 1) := by
        intro d
        induction d with
        | zero =>
          intro i n h1 h2 h3
          obtain ⟨n, rfl⟩ : ∃ k, n = k + 1 := ⟨n - 1, by omega⟩
          show L_X8_tell_12_step (nI k) o (L_X8_tell_12 (nI k) o n) (nI i) = _
          unfold L_X8_tell_12_step
          rw [hw.2.2.1, if_pos (nI_le (by omega) (by have := hw.1; omega)), if_neg]
          rw [os_tb]
          rintro ⟨j, a, b⟩
          rw [Nat.zero_add] at b
          exact h3 j (by omega) b
        | succ d ih =>
          intro i n h1 h2 h3
          obtain ⟨n, rfl⟩ : ∃ k, n = k + 1 := ⟨n - 1, by omega⟩
          have h9 := hw.1
          have e := hw.2.2.2.1 i (by omega)
          show L_X8_tell_12_step (nI k) o (L_X8_tell_12 (nI k) o n) (nI i) = _
          unfold L_X8_tell_12_step
          rw [hw.2.2.1, if_neg (by rw [nI_leI (by omega) (by omega)]; omega), cl_nI (by omega), ck_nI (by omega), gd_d (by omega), e.2.2]
          by_cases q2 : R i = k
          · rw [if_pos (by rw [q2]), if_pos (by rw [os_tb]; exact ⟨i, by omega, by rw [Nat.zero_add]; exact q2⟩)]
          · rw [if_neg (by rw [nI_eq (by omega) (by omega)]; exact q2), nm_s, l_1, nI_add]
            exact ih (i + 1) n (by omega) (by omega) (fun j hj => by
              by_cases q3 : j = i
              · rw [q3]; exact q2
              · exact h3 j (by omega))
      exact main rn 0 512 (by omega) (by have := hw.1; omega) (fun j hj => by omega)
    rw [hh, hm, bd_s, bd_s]
    cases q2 : (os R 0 rn).testBit k
    · have hnot : ∀ j, j < rn → R j ≠ k := fun j hj e => by
        have : (os R 0 rn).testBit k = true := (os_tb rn).mpr ⟨j, hj, by rw [Nat.zero_add]; exact e⟩
        rw [this] at q2; cases q2
      have hpg := pigeon (v.1 3) (rn + 1) (fun j => if j = rn then k else R j) (fun i hi => by
        show (if i = rn then k else R i) < v.1 3
        split
        · exact hk
        · exact (hw.2.2.2.1 i (by omega)).1) (fun i j hij hj => by
        show (if i = rn then k else R i) ≠ (if j = rn then k else R j)
        rw [if_neg (by omega)]
        split
        · exact hnot i (by omega)
        · exact hw.2.2.2.2 i j hij (by omega))
      have ap : f_X4_append (X 9) (nI k) = some (sF (sA (X 9) 0 rn (nI k)) 1 (nI (rn + 1))) := by
        unfold f_X4_append
        rw [hw.2.1, if_neg (by rw [l_8, nI_leI (by omega) (by omega)]; omega)]
        simp (disch := omega) only [bd_s, nm_s, cl_nI, ck_nI, gd_d, sA1, hw.2.1, l_1, nI_add]
      rw [if_pos (show b2i false = (0 : Int32) from rfl), ap, bd_s, nm_s, if_neg (by simp), hw.2.2.1, cl_nI (by omega), ck_nI (by omega), gd_d (by omega), nm_s]
      refine ⟨nI (rn + 1), sX X 9 (sF (sA (X 9) 0 rn (nI k)) 1 (nI (rn + 1))), sF (sA o 17 rn (nI k)) 16 (nI (rn + 1)), rfl, ?_, h.row (fun j hj => ?_) (fun i hi => ?_) (fun i hi => ?_) (fun nk rn' R' hw' v' hv' hnk hM' => ?_)⟩
      · rw [sA1, hw.2.2.1, l_1, nI_add]; rfl
      · show (if j = 9 then _ else X j) = _
        rw [if_neg hj]
      · rw [sF1, if_neg hi, sA1]
      · show (if i = 17 then _ else o.2 i) = _
        rw [if_neg hi]
      · have hnk2 : nk = v.1 3 := by
          have e1 := hM'.2.2.2.1
          rw [ht.m.2.2.2.1] at e1
          have := (nI_eq (by omega) (by have := hv'.2.2.2.1; omega)).mp e1
          omega
        refine ⟨rn + 1, fun j => if j = rn then k else R j, by omega, rfl, rfl, fun i hi => ?_, fun i j hij hj => ?_⟩
        · show (if i = rn then k else R i) < nk ∧ (sA (X 9) 0 rn (nI k)).2 0 i = nI (if i = rn then k else R i) ∧ (sA o 17 rn (nI k)).2 17 i = nI (if i = rn then k else R i)
          rw [tbl_upd, tbl_upd]
          by_cases q3 : i = rn
          · rw [if_pos q3, if_pos q3, if_pos q3]
            exact ⟨by omega, rfl, rfl⟩
          · have := hw.2.2.2.1 i (by omega)
            rw [if_neg q3, if_neg q3, if_neg q3]
            exact ⟨by omega, this.2⟩
        · show (if i = rn then k else R i) ≠ (if j = rn then k else R j)
          rw [if_neg (by omega)]
          split
          · exact hnot i (by omega)
          · exact hw.2.2.2.2 i j hij (by omega)
    · rw [if_neg (show ¬ b2i true = (0 : Int32) by decide)]
      exact ⟨(-2 : Int32), X, o, rfl, rfl, h⟩
theorem s_judge : Sim_judge Rl := fun X o h => by
  obtain ⟨v, ht, -, -, -, ⟨rn, R, hw⟩, -⟩ := id h
  have h8 := ht.2.2.1.2.2.2.1
  have h9 := hw.1
  have hM := ht.m
  have hv := ht.2.2.1
  have bad (i : Nat) (hi : i < rn) : ∃ b : Bool, (L_X8_judge_14 (nI i) o 512 (nI (i + 1)) = some (if b then 0 else 1)) ∧ (b = decide (¬ (v.2 2 (R i) &&& os R (i + 1) (rn - (i + 1)) = 0))) := by
    have e := hw.2.2.2.1 i hi
    have hjj := hM.2.2.2.2.2.2 (R i) e.1
    have hth := hv.th e.1
    have hor : ∀ d, i + 1 + d ≤ rn → os R (i + 1) d < 256 := fun d hd => os_lt d (fun j hj => by have := (hw.2.2.2.1 (i + 1 + j) (by omega)).1; omega)
    refine ⟨decide (¬ (v.2 2 (R i) &&& os R (i + 1) (rn - (i + 1)) = 0)), ?_, rfl⟩
    have main : ∀ d j n, i + 1 + j + d = rn → d < n → v.2 2 (R i) &&& os R (i + 1) j = 0 → L_X8_judge_14 (nI i) o n (nI (i + 1 + j)) = some (if decide (¬ (v.2 2 (R i) &&& os R (i + 1) (rn - (i + 1)) = 0)) then 0 else 1) := by
      intro d
      induction d with
      | zero =>
        intro j n h1 h2 h3
        obtain ⟨n, rfl⟩ : ∃ k, n = k + 1 := ⟨n - 1, by omega⟩
        have : rn - (i + 1) = j := by omega
        rw [this, h3]
        show L_X8_judge_14_step (nI i) o (L_X8_judge_14 (nI i) o n) _ = _
        unfold L_X8_judge_14_step
        rw [hw.2.2.1, if_pos (nI_le (by omega) (by omega))]; rfl
      | succ d ih =>
        intro j n h1 h2 h3
        obtain ⟨n, rfl⟩ : ∃ k, n = k + 1 := ⟨n - 1, by omega⟩
        have e2 := hw.2.2.2.1 (i + 1 + j) (by omega)
        show L_X8_judge_14_step (nI i) o (L_X8_judge_14 (nI i) o n) _ = _
        unfold L_X8_judge_14_step
        rw [hw.2.2.1, if_neg (by rw [nI_leI (by omega) (by omega)]; omega), cl_nI (by omega), ck_nI (by omega), gd_d (by omega), e.2.2, cl_nI (by omega), ck_nI (by omega), gd_d (by omega), cl_nI (by omega), ck_nI (by omega), gd_d (by omega), e2.2.2, hjj.2.2.1, has_m (by omega) (by omega), bd_s]
        cases q : (v.2 2 (R i)).testBit (R (i + 1 + j))
        · rw [if_pos (show b2i false = (0 : Int32) from rfl), nm_s, l_1, nI_add]
          have := ih (j + 1) n (by omega) (by omega) (by
            rw [os, z_tb]
            intro t
            have z := (z_tb.mp h3) t
            rw [Nat.testBit_and] at z
            rw [Nat.testBit_and, Nat.testBit_or, pw_tb]
            by_cases q2 : R (i + 1 + j) = t
            · subst q2; rw [q]; rfl
            · rw [decide_eq_false q2, Bool.or_false]; exact z)
          exact this
        · rw [if_neg (show ¬ b2i true = (0 : Int32) by decide), if_pos]
          rw [decide_eq_true_iff]
          intro hz
          have := (z_tb.mp hz) (R (i + 1 + j))
          rw [Nat.testBit_and, q, (os_tb (rn - (i + 1))).mpr ⟨j, by omega, rfl⟩] at this
          cases this
    have := main (rn - (i + 1)) 0 512 (by omega) (by omega) (by simp [os])
    exact this
  have main : ∀ d i n m, i + d = rn → d < n → d < m → ∃ z, L_X4_firstWrong_2 (X 9) (X 2) n (nI i) = some z ∧ L_X8_judge_2 o m (nI i) = some z := by
    intro d
    induction d with
    | zero =>
      intro i n m h1 h2 h3
      obtain ⟨n, rfl⟩ : ∃ k, n = k + 1 := ⟨n - 1, by omega⟩
      obtain ⟨m, rfl⟩ : ∃ k, m = k + 1 := ⟨m - 1, by omega⟩
      refine ⟨(1, nI i), ?_, ?_⟩
      · show L_X4_firstWrong_2_step (X 9) (X 2) (L_X4_firstWrong_2 (X 9) (X 2) n) (nI i) = _
        unfold L_X4_firstWrong_2_step
        rw [hw.2.1, if_pos (nI_le (by omega) (by omega))]
      · show L_X8_judge_2_step o (L_X8_judge_2 o m) (nI i) = _
        unfold L_X8_judge_2_step
        rw [hw.2.2.1, if_pos (nI_le (by omega) (by omega))]
    | succ d ih =>
      intro i n m h1 h2 h3
      obtain ⟨n, rfl⟩ : ∃ k, n = k + 1 := ⟨n - 1, by omega⟩
      obtain ⟨m, rfl⟩ : ∃ k, m = k + 1 := ⟨m - 1, by omega⟩
      obtain ⟨z, r1, r2⟩ := ih (i + 1) n m (by omega) (by omega) (by omega)
      obtain ⟨b, m1, m2⟩ := bad i (by omega)
      have e := hw.2.2.2.1 i (by omega)
      have hjj := ht.1.2.2.2.2.2.2 (R i) e.1
      have hth := hv.th e.1
      have hand : v.2 2 (R i) &&& os R (i + 1) (rn - (i + 1)) < 256 := and_lt8 _ hth
      have stc : L_X4_firstWrong_2 (X 9) (X 2) (n + 1) (nI i) = if b then some (0, nI i) else L_X4_firstWrong_2 (X 9) (X 2) n (nI (i + 1)) := by
        show L_X4_firstWrong_2_step (X 9) (X 2) (L_X4_firstWrong_2 (X 9) (X 2) n) (nI i) = _
        unfold L_X4_firstWrong_2_step
        rw [hw.2.1, if_neg (by rw [nI_leI (by omega) (by omega)]; omega), if_neg (by rw [l_8, nI_leI (by omega) (by omega)]; omega), cl_nI (by omega), ck_nI (by omega), gd_d (by omega), e.2.1, nm_s, isKnot_c ht.1 hv, inb_nI (by omega), decide_eq_true e.1, bd_s, if_neg (show ¬ b2i true = (0 : Int32) by decide), ck_nI (by omega), gd_d (by omega), cl_nI (by omega), l_1, nI_add, set_c hw h8 (by omega), bd_s, hjj.2.2.2.1, nI_and, m2]
        by_cases q : v.2 2 (R i) &&& os R (i + 1) (rn - (i + 1)) = 0
        · rw [if_pos (by rw [q]; rfl), nm_s]; simp [q]
        · rw [if_neg (by rw [l_0, nI_eq (by omega) (by omega)]; exact q)]; simp [q]
      have stm : L_X8_judge_2 o (m + 1) (nI i) = if b then some (0, nI i) else L_X8_judge_2 o m (nI (i + 1)) := by
        show L_X8_judge_2_step o (L_X8_judge_2 o m) (nI i) = _
        unfold L_X8_judge_2_step
        rw [hw.2.2.1, if_neg (by rw [nI_leI (by omega) (by omega)]; omega), nm_s, l_1, nI_add, m1, bd_s]
        cases b
        · simp [nm_s]
        · simp
      rw [stc, stm]
      cases b
      · exact ⟨z, r1, r2⟩
      · exact ⟨(0, nI i), rfl, rfl⟩
  obtain ⟨z, r1, r2⟩ := main rn 0 512 512 (by omega) (by omega) (by omega)
  have r1 : L_X4_firstWrong_2 (X 9) (X 2) 512 (0 : Int32) = some z := r1
  have r2 : L_X8_judge_2 o 512 (0 : Int32) = some z := r2
  refine ⟨if z.1 = 0 then z.2 else (-4 : Int32), ?_, ?_, h⟩
  · unfold f_X7_judge f_X4_firstWrong
    rw [r1, bd_s]
    split <;> rfl
  · unfold f_X8_judge
    rw [r2, bd_s]
    split <;> rfl
