/-! ===== may, in the reference (own text) ===== -/
def allB (p : Nat → Bool) : Nat → Bool
  | 0 => true
  | n + 1 => allB p n && p n
theorem allB_t {p : Nat → Bool} : ∀ n, allB p n = true ↔ ∀ j, j < n → p j = true
  | 0 => by simp [allB]
  | n + 1 => by
    rw [allB, Bool.and_eq_true, allB_t n]
    constructor
    · intro h j hj
      by_cases q : j = n
      · subst q; exact h.2
      · exact h.1 j (by omega)
    · intro h
      exact ⟨fun j hj => h j (by omega), h n (by omega)⟩
theorem z_tb {a : Nat} : a = 0 ↔ ∀ j, a.testBit j = false := by
  constructor
  · intro h j; subst h; simp
  · intro h; exact Nat.eq_of_testBit_eq (fun j => by rw [h j]; simp)
theorem pp_and (v : TV) (k al : Nat) : (pp v k &&& al = 0) ↔ (al.testBit (v.2 0 k) = false ∧ al.testBit (v.2 1 k) = false) := by
  rw [z_tb]
  constructor
  · intro h
    have h1 := h (v.2 0 k)
    have h2 := h (v.2 1 k)
    rw [Nat.testBit_and, pp_tb] at h1 h2
    simp at h1 h2
    exact ⟨h1, h2⟩
  · intro h j
    rw [Nat.testBit_and, pp_tb]
    by_cases q1 : v.2 0 k = j
    · subst q1; simp [h.1]
    · by_cases q2 : v.2 1 k = j
      · subst q2; simp [h.2]
      · simp [q1, q2]
theorem pp_sd {v : TV} (hv : TOK v) {k : Nat} (hk : k < v.1 3) (al : Nat) : (sd (pp v k) al = 0) ↔ (al.testBit (v.2 0 k) = true ∧ al.testBit (v.2 1 k) = true) := by
  have hp := hv.pp hk
  rw [z_tb]
  constructor
  · intro h
    have h1 := h (v.2 0 k)
    have h2 := h (v.2 1 k)
    rw [sd_tb (by omega), pp_tb] at h1 h2
    simp at h1 h2
    exact ⟨h1, h2⟩
  · intro h j
    rw [sd_tb (by omega), pp_tb]
    by_cases q1 : v.2 0 k = j
    · subst q1; simp [h.1]
    · by_cases q2 : v.2 1 k = j
      · subst q2; simp [h.2]
      · simp [q1, q2]
def own (v : TV) (k s : Nat) : Nat := msk (fun j => s.testBit j && (pp v j).testBit (v.2 0 k)) 8 ||| msk (fun j => s.testBit j && (pp v j).testBit (v.2 1 k)) 8
theorem own_lt (v : TV) (k s : Nat) : own v k s < 256 := or_lt8 (msk_8 _ (by omega)) (msk_8 _ (by omega))
theorem own_tb {v : TV} (k s j : Nat) : (own v k s).testBit j = (decide (j < 8) && (s.testBit j && ((pp v j).testBit (v.2 0 k) || (pp v j).testBit (v.2 1 k)))) := by
  unfold own
  rw [Nat.testBit_or, msk_tb, msk_tb]
  cases s.testBit j <;> cases (pp v j).testBit (v.2 0 k) <;> cases (pp v j).testBit (v.2 1 k) <;> by_cases h : j < 8 <;> simp [h]
theorem way0 {v : TV} (hv : TOK v) {k s : Nat} (hk : k < v.1 3) (hs : inK v s) :
    decide (way v k s = 0) = (allB (fun j => !(s.testBit j && (v.2 2 j).testBit k)) (v.1 3) && (decide (¬ v.2 4 k = 3) || decide (sd (own v k s) (2 ^ k) = 0))) := by
  have h8 := hv.2.2.2.1
  rw [Bool.eq_iff_iff, decide_eq_true_iff, Bool.and_eq_true, Bool.or_eq_true, allB_t, decide_eq_true_iff, decide_eq_true_iff, z_tb, z_tb]
  have hkk : (v.2 2 k).testBit k = false := Nat.testBit_lt_two_pow (hv.2.2.2.2.2.2 k hk).2.2.2.1
  constructor
  · intro h
    refine ⟨fun j hj => ?_, ?_⟩
    · have h1 := h j
      rw [way_tb] at h1
      have h2 : j < 8 := by omega
      by_cases q : j = k
      · subst q; simp [hkk]
      · cases q1 : s.testBit j <;> cases q2 : (v.2 2 j).testBit k <;> simp_all [stops]
    · by_cases q : v.2 4 k = 3
      · right
        intro j
        rw [sd_tb (own_lt v k s), own_tb, pw_tb]
        by_cases q3 : k = j
        · simp [q3]
        · have h1 := h j
          rw [way_tb] at h1
          have h3 := pp_and v k (pp v j)
          by_cases h2 : j < 8
          · cases q1 : s.testBit j
            · simp
            · have q4 : ¬ j = k := fun e => q3 e.symm
              simp [h2, q4, q1, stops, q] at h1
              rw [Nat.and_comm] at h1
              have h5 := h3.mp h1.2
              simp [h5]
          · simp [h2]
      · left; exact q
  · intro h j
    rw [way_tb]
    by_cases h2 : j < 8
    · cases q1 : s.testBit j
      · simp
      · by_cases q : j = k
        · simp [q]
        · have h3 := h.1 j (hs.tb q1)
          rw [q1] at h3
          have h3' : (v.2 2 j).testBit k = false := by simpa using h3
          by_cases q5 : v.2 4 k = 3
          · rcases h.2 with h4 | h4
            · exact absurd q5 h4
            · have h5 := h4 j
              have q6 : ¬ k = j := fun e => q e.symm
              rw [sd_tb (own_lt v k s), own_tb, pw_tb] at h5
              simp [h2, q1, q6] at h5
              have h6 := (pp_and v k (pp v j)).mpr h5
              rw [Nat.and_comm] at h6
              simp [stops, h3', h6]
          · simp [stops, h3', q5]
    · simp [h2]
theorem b2i_add (x y : Bool) : b2i x + b2i y = nI ((if x then 1 else 0) + (if y then 1 else 0)) := by cases x <;> cases y <;> rfl
theorem lawful_xy {v : TV} (hv : TOK v) {k : Nat} (hk : k < v.1 3) (al : Nat) : lawful v k al = !decide ((if al.testBit (v.2 0 k) then 1 else 0) + (if al.testBit (v.2 1 k) then 1 else 0) < 2 - v.1 2) := by
  have hl := hv.2.2.1
  unfold lawful
  have h1 := pp_sd hv hk al
  have h2 := pp_and v k al
  rw [Bool.eq_iff_iff]
  simp only [Bool.or_eq_true, Bool.and_eq_true, decide_eq_true_iff, Bool.not_eq_true', decide_eq_false_iff_not, h1, h2]
  cases al.testBit (v.2 0 k) <;> cases al.testBit (v.2 1 k) <;> simp <;> omega
theorem J141_m {o : Ob} {v : TV} (hM : M0 o v) (hv : TOK v) {k s : Nat} (hk : k < v.1 3) (hs : inK v s) (b : Bool) :
    J_X8_mayBe_141 (b2i b) (nI k) (nI s) o = some (b2i (b && (decide (¬ v.2 4 k = 3) || decide (sd (own v k s) (2 ^ k) = 0)))) := by
  have h8 := hv.2.2.2.1
  have hkk := hM.2.2.2.2.2.2 k hk
  have hok := hv.2.2.2.2.2.2 k hk
  have hnp := hv.1
  have hs1 := sd_lt8 (2 ^ k) (own_lt v k s)
  unfold J_X8_mayBe_141
  simp (disch := omega) only [bd_s, nm_s, l_0, l_1, l_2, l_3, l_4, l_5, l_6, l_7, l_8, l_9, l_10, l_16, l_20, l_32, l_44, l_48, l_57, l_59, l_60, l_99, l_100, l_107, l_108, l_112, l_255, l_256, l_300, l_9999, le_nI, lt_nI, eq_nI, cl_nI, ck_nI, gd_d, b2i_z, b2i_o, has_c, has_m, bit_c, within_c, nI_add, if_pos, if_neg, nI_or, nI_and, sh1_nI, pk_sub, gd_ckz, hkk.1, hkk.2.1, hkk.2.2.2.2, ofM_m hM hv (i := v.2 0 k) (s := s) (by omega) hs, ofM_m hM hv (i := v.2 1 k) (s := s) (by omega) hs]
  have e : nI (msk (fun j => s.testBit j && (pp v j).testBit (v.2 0 k)) 8 ||| msk (fun j => s.testBit j && (pp v j).testBit (v.2 1 k)) 8) &&& (nI (2 ^ k) ^^^ -nI 1) = nI (sd (own v k s) (2 ^ k)) := nI_andn' _ (own_lt v k s)
  rw [e]
  simp (disch := omega) only [bd_s, nm_s, l_0, l_1, l_2, l_3, l_4, l_5, l_6, l_7, l_8, l_9, l_10, l_16, l_20, l_32, l_44, l_48, l_57, l_59, l_60, l_99, l_100, l_107, l_108, l_112, l_255, l_256, l_300, l_9999, le_nI, lt_nI, eq_nI, cl_nI, ck_nI, gd_d, b2i_z, b2i_o, has_c, has_m, bit_c, within_c, nI_add, if_pos, if_neg, nI_or, nI_and, sh1_nI, pk_sub, gd_ckz]
  cases b
  · rfl
  · by_cases q : v.2 4 k = 3 <;> by_cases q2 : sd (own v k s) (2 ^ k) = 0 <;> simp [q, q2] <;> rfl
theorem may_m {o : Ob} {v : TV} (hM : M0 o v) (hv : TOK v) {k s dy al : Nat} (hk : k < v.1 3) (hs : inK v s) (hd : dy < 256) (ha : al < 256) : f_X8_mayBe o (nI k) (nI s) (nI al) (nI dy) = some (b2i (may v k s dy al)) := by
  have h8 := hv.2.2.2.1
  have hsl := hs.lt hv
  have hkk := hM.2.2.2.2.2.2 k hk
  have hok := hv.2.2.2.2.2.2 k hk
  have hnp := hv.1
  have hlw := hv.2.2.1
  have key := loop_up (fun n (x : Int32 × Int32) => L_X8_mayBe_10 (nI k) (nI s) (nI al) (nI dy) o n x.1 x.2) (fun j (_ : Unit) => (b2i (s.testBit k && allB (fun j => !(s.testBit j && (v.2 2 j).testBit k)) j), nI j)) (fun _ u => u) (fun _ => b2i (s.testBit k && allB (fun j => !(s.testBit j && (v.2 2 j).testBit k)) (v.1 3))) (v.1 3) (fun j _ => True)
    (by
      intro n j u hj _
      refine ⟨?_, trivial⟩
      show L_X8_mayBe_10_step (nI k) (nI s) (nI al) (nI dy) o (L_X8_mayBe_10 (nI k) (nI s) (nI al) (nI dy) o n) _ _ = L_X8_mayBe_10 (nI k) (nI s) (nI al) (nI dy) o n _ _
      unfold L_X8_mayBe_10_step
      have hjj := hM.2.2.2.2.2.2 j hj
      have e1 := hv.th hj
      rw [hM.2.2.2.1, allB]
      simp (disch := omega) only [bd_s, nm_s, l_0, l_1, l_2, l_3, l_4, l_5, l_6, l_7, l_8, l_9, l_10, l_16, l_20, l_32, l_44, l_48, l_57, l_59, l_60, l_99, l_100, l_107, l_108, l_112, l_255, l_256, l_300, l_9999, le_nI, lt_nI, eq_nI, cl_nI, ck_nI, gd_d, b2i_z, b2i_o, has_c, has_m, bit_c, within_c, nI_add, if_pos, if_neg, nI_or, nI_and, sh1_nI, pk_sub, gd_ckz, hjj.2.2.1]
      cases q1 : (s.testBit k && allB (fun j => !(s.testBit j && (v.2 2 j).testBit k)) j)
      · have : (s.testBit k && (allB (fun j => !(s.testBit j && (v.2 2 j).testBit k)) j && !(s.testBit j && (v.2 2 j).testBit k))) = false := by
          rw [← Bool.and_assoc, q1]; rfl
        rw [this]; rfl
      · have : (s.testBit k && (allB (fun j => !(s.testBit j && (v.2 2 j).testBit k)) j && !(s.testBit j && (v.2 2 j).testBit k))) = !(s.testBit j && (v.2 2 j).testBit k) := by
          rw [← Bool.and_assoc, q1, Bool.true_and]
        rw [this]
        cases q2 : s.testBit j
        · rfl
        · cases q3 : (v.2 2 j).testBit k <;> rfl)
    (by
      intro n u _
      show L_X8_mayBe_10_step (nI k) (nI s) (nI al) (nI dy) o (L_X8_mayBe_10 (nI k) (nI s) (nI al) (nI dy) o n) _ _ = _
      unfold L_X8_mayBe_10_step
      rw [hM.2.2.2.1]
      simp (disch := omega) only [bd_s, nm_s, l_0, l_1, l_2, l_3, l_4, l_5, l_6, l_7, l_8, l_9, l_10, l_16, l_20, l_32, l_44, l_48, l_57, l_59, l_60, l_99, l_100, l_107, l_108, l_112, l_255, l_256, l_300, l_9999, le_nI, lt_nI, eq_nI, cl_nI, ck_nI, gd_d, b2i_z, b2i_o, has_c, has_m, bit_c, within_c, nI_add, if_pos, if_neg, nI_or, nI_and, sh1_nI, pk_sub, gd_ckz]) (v.1 3) 0 () 512 (by omega) (by omega) trivial
  obtain ⟨_, h1, -⟩ := key
  have h2 : L_X8_mayBe_10 (nI k) (nI s) (nI al) (nI dy) o 512 (b2i (s.testBit k)) (nI 0) = some (b2i (s.testBit k && allB (fun j => !(s.testBit j && (v.2 2 j).testBit k)) (v.1 3))) := by
    have h3 := h1
    simp only [allB, Bool.and_true] at h3
    exact h3
  unfold f_X8_mayBe J_X8_mayBe_107 J_X8_mayBe_108 J_X8_mayBe_140 J_X8_mayBe_136
  simp (disch := omega) only [bd_s, nm_s, l_0, l_1, l_2, l_3, l_4, l_5, l_6, l_7, l_8, l_9, l_10, l_16, l_20, l_32, l_44, l_48, l_57, l_59, l_60, l_99, l_100, l_107, l_108, l_112, l_255, l_256, l_300, l_9999, le_nI, lt_nI, eq_nI, cl_nI, ck_nI, gd_d, b2i_z, b2i_o, has_c, has_m, bit_c, within_c, nI_add, if_pos, if_neg, nI_or, nI_and, sh1_nI, pk_sub, gd_ckz, h2, hkk.1, hkk.2.1, hkk.2.2.2.1, hkk.2.2.2.2, hM.2.2.1, bit_nI, b2i_add]
  rw [show nI 1 = b2i true from rfl, show nI 0 = b2i false from rfl]
  simp only [J141_m hM hv hk hs]
  have hx : (if al.testBit (v.2 0 k) then 1 else 0) + (if al.testBit (v.2 1 k) then 1 else 0) < 2147483648 := by split <;> split <;> omega
  simp (disch := omega) only [bd_s, nm_s, l_0, l_1, l_2, l_3, l_4, l_5, l_6, l_7, l_8, l_9, l_10, l_16, l_20, l_32, l_44, l_48, l_57, l_59, l_60, l_99, l_100, l_107, l_108, l_112, l_255, l_256, l_300, l_9999, le_nI, lt_nI, eq_nI, cl_nI, ck_nI, gd_d, b2i_z, b2i_o, has_c, has_m, bit_c, within_c, nI_add, if_pos, if_neg, nI_or, nI_and, sh1_nI, pk_sub, gd_ckz]
  unfold may stat
  rw [way0 hv hk hs, lawful_xy hv hk]
  cases q1 : s.testBit k
  · simp
  · cases q2 : allB (fun j => !(s.testBit j && (v.2 2 j).testBit k)) (v.1 3)
    · simp
    · by_cases q3 : (if al.testBit (v.2 0 k) = true then 1 else 0) + (if al.testBit (v.2 1 k) = true then 1 else 0) < 2 - v.1 2
      · simp [q3]
      · by_cases q4 : v.2 4 k = 2
        · by_cases q5 : dy < v.2 3 k
          · have : ¬ v.2 3 k ≤ dy := by omega
            simp [q3, q4, q5, this]
          · have : v.2 3 k ≤ dy := by omega
            simp [q3, q4, q5, this]
        · simp [q3, q4]
