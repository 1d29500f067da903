/-! ===== bytes written (own text) ===== -/
theorem and255_i (y : Int32) : ∃ b, b < 256 ∧ y &&& (255 : Int32) = nI b := by
  refine ⟨(y &&& (255 : Int32)).toBitVec.toNat, ?_, ?_⟩
  · have : (y &&& (255 : Int32)).toBitVec.toNat = y.toBitVec.toNat &&& 255 := by
      rw [Int32.toBitVec_and, BitVec.toNat_and]; rfl
    rw [this]
    exact Nat.lt_of_le_of_lt Nat.and_le_right (by omega)
  · apply Int32.toBitVec_inj.1
    show _ = BitVec.ofNat 32 _
    rw [BitVec.ofNat_toNat, BitVec.setWidth_eq]
theorem byte_eq (x : Int64) : ∀ k, k < 8 → (((x >>> (((8 : Int32) * nI k).toInt64 &&& 63)) &&& (255 : Int64)).toInt32) = ((((x.toUInt64 >>> (((8 : Int32) * nI k).toInt64.toUInt64 &&& Int64.toUInt64 63)).toInt64).toInt32) &&& (255 : Int32)) := by
  intro k hk
  have a1 : ∀ k, k < 8 → ((((8 : Int32) * nI k).toInt64 &&& 63).toBitVec.smod 64).toNat = 8 * k := by decide +kernel
  have a2 : ∀ k, k < 8 → (((8 : Int32) * nI k).toInt64.toUInt64 &&& Int64.toUInt64 63).toNat % 64 = 8 * k := by decide +kernel
  have b1 := a1 k hk
  have b2 := a2 k hk
  apply Int32.toBitVec_inj.1
  apply BitVec.eq_of_getLsbD_eq
  intro i hi
  have L : (((x >>> (((8 : Int32) * nI k).toInt64 &&& 63)) &&& (255 : Int64)).toInt32).toBitVec = BitVec.signExtend 32 (BitVec.sshiftRight x.toBitVec (8 * k) &&& (255#64)) := by
    rw [← b1]; rfl
  have R : ((((x.toUInt64 >>> (((8 : Int32) * nI k).toInt64.toUInt64 &&& Int64.toUInt64 63)).toInt64).toInt32) &&& (255 : Int32)).toBitVec = BitVec.signExtend 32 (x.toBitVec >>> (8 * k)) &&& (255#32) := by
    rw [← b2]; rfl
  rw [L, R]
  simp only [BitVec.getLsbD_and, BitVec.getLsbD_signExtend, BitVec.getLsbD_sshiftRight, BitVec.getLsbD_ushiftRight, hi, decide_true, Bool.true_and]
  have c1 : i < 64 := by omega
  simp only [c1, if_true]
  by_cases q : i < 8
  · have c2 : 8 * k + i < 64 := by omega
    have c3 : i = 0 ∨ i = 1 ∨ i = 2 ∨ i = 3 ∨ i = 4 ∨ i = 5 ∨ i = 6 ∨ i = 7 := by omega
    rcases c3 with rfl | rfl | rfl | rfl | rfl | rfl | rfl | rfl <;> simp <;> omega
  · have d1 : (255#64).getLsbD i = false := by
      rw [BitVec.getLsbD_ofNat, show (255 : Nat) = 2 ^ 8 - 1 from rfl, Nat.testBit_two_pow_sub_one]
      simp [q]
    have d2 : (255#32).getLsbD i = false := by
      rw [BitVec.getLsbD_ofNat, show (255 : Nat) = 2 ^ 8 - 1 from rfl, Nat.testBit_two_pow_sub_one]
      simp [q]
    rw [d1, d2]
    simp
def dn (k : Nat) : Int32 := nI k - nI 1
theorem dn_0 : dn 0 < (0 : Int32) := by decide
theorem dn_s (k : Nat) : dn (k + 1) = nI k := by
  unfold dn
  rw [pk_sub (by omega)]; rfl
theorem dn_n (k : Nat) : nI k + (-1 : Int32) = dn k := (Int32.sub_eq_add_neg (nI k) (nI 1)).symm
theorem append5 {T o : Ob} {n : Nat} {B : Nat → Nat} (h : TX T o n B) (hn : n < 300) (b : Nat) (hb : b < 256) : ∃ T', f_X5_append T (nI b) = some T' ∧ ∀ o' : Ob, o'.1 0 = nI (n + 1) → (∀ i, i < n + 1 → o'.2 1 i = if i = n then nI b else o.2 1 i) → TX T' o' (n + 1) (fun i => if i = n then b else B i) := by
  obtain ⟨h0, h1, h2, h3⟩ := h
  refine ⟨sF (sA T 0 n (nI b)) 1 (nI (n + 1)), ?_, fun o' e1 e2 => ⟨by omega, rfl, e1, fun i hi => ?_⟩⟩
  · unfold f_X5_append
    rw [h1, if_neg (by rw [l_300, nI_leI (by omega) (by omega)]; omega)]
    simp (disch := omega) only [bd_s, nm_s, cl_nI, ck_nI, gd_d, sA1, h1, l_1, nI_add]
  · show (if i = n then b else B i) < 256 ∧ (sA T 0 n (nI b)).2 0 i = nI (if i = n then b else B i) ∧ o'.2 1 i = nI (if i = n then b else B i)
    rw [e2 i hi, sA2]
    by_cases q : i = n
    · rw [if_pos q, if_pos q, if_pos ⟨rfl, q⟩]
      exact ⟨hb, rfl, rfl⟩
    · have := h3 i (by omega)
      rw [if_neg q, if_neg q, if_neg (fun e => q e.2)]
      exact this
theorem write_loop (x : Int64) : ∀ (k n f g : Nat) (X : Nat → Ob) (o : Ob) (B : Nat → Nat), TX (X 0) o n B → n + k ≤ 300 → k ≤ 8 → k < f → k < g → ∃ X' o' B', L_X7_write_36 x f (dn k) X = some X' ∧ L_X8_write_34 x g (dn k) o = some o' ∧ TX (X' 0) o' (n + k) B' ∧ (∀ j, j ≠ 0 → X' j = X j) ∧ (∀ i, i ≠ 0 → o'.1 i = o.1 i) ∧ (∀ i, i ≠ 1 → o'.2 i = o.2 i) := by
  intro k
  induction k with
  | zero =>
    intro n f g X o B ht h1 h2 hf hg
    obtain ⟨f, rfl⟩ : ∃ k, f = k + 1 := ⟨f - 1, by omega⟩
    obtain ⟨g, rfl⟩ : ∃ k, g = k + 1 := ⟨g - 1, by omega⟩
    refine ⟨X, o, B, ?_, ?_, ht, fun _ _ => rfl, fun _ _ => rfl, fun _ _ => rfl⟩
    · show L_X7_write_36_step x (L_X7_write_36 x f) (dn 0) X = _
      unfold L_X7_write_36_step
      rw [if_pos dn_0]
    · show L_X8_write_34_step x (L_X8_write_34 x g) (dn 0) o = _
      unfold L_X8_write_34_step
      rw [if_pos dn_0]
  | succ k ih =>
    intro n f g X o B ht h1 h2 hf hg
    obtain ⟨f, rfl⟩ : ∃ k, f = k + 1 := ⟨f - 1, by omega⟩
    obtain ⟨g, rfl⟩ : ∃ k, g = k + 1 := ⟨g - 1, by omega⟩
    have hb := byte_eq x k (by omega)
    obtain ⟨b, hb1, hb2⟩ := and255_i ((((x.toUInt64 >>> (((8 : Int32) * nI k).toInt64.toUInt64 &&& Int64.toUInt64 63)).toInt64).toInt32))
    rw [hb2] at hb
    obtain ⟨T', a1, a2⟩ := append5 ht (by omega) b hb1
    have hn0 : ¬ nI k < (0 : Int32) := fun e => absurd e (nI_pos (by omega))
    have c1 : L_X7_write_36 x (f + 1) (dn (k + 1)) X = L_X7_write_36 x f (dn k) (sX X 0 T') := by
      show L_X7_write_36_step x (L_X7_write_36 x f) (dn (k + 1)) X = _
      unfold L_X7_write_36_step
      rw [dn_s, if_neg hn0, hb2, a1, bd_s, nm_s, nm_s, dn_n]
    have c2 : L_X8_write_34 x (g + 1) (dn (k + 1)) o = L_X8_write_34 x g (dn k) (sF (sA o 1 n (nI b)) 0 (nI (n + 1))) := by
      show L_X8_write_34_step x (L_X8_write_34 x g) (dn (k + 1)) o = _
      unfold L_X8_write_34_step
      rw [dn_s, if_neg hn0, hb, ht.2.2.1, dn_n]
      simp (disch := omega) only [bd_s, nm_s, cl_nI, ck_nI, gd_d, sA1, ht.2.2.1, l_1, nI_add]
    have t2 : TX T' (sF (sA o 1 n (nI b)) 0 (nI (n + 1))) (n + 1) (fun i => if i = n then b else B i) := a2 _ rfl (fun i hi => by
      show (sA o 1 n (nI b)).2 1 i = _
      rw [tbl_upd])
    obtain ⟨X', o', B', r1, r2, r3, r4, r5, r6⟩ := ih (n + 1) f g (sX X 0 T') _ _ (show TX ((sX X 0 T') 0) _ (n + 1) _ from t2) (by omega) (by omega) (by omega) (by omega)
    refine ⟨X', o', B', c1.trans r1, c2.trans r2, ?_, fun j hj => ?_, fun i hi => ?_, fun i hi => ?_⟩
    · rw [show n + (k + 1) = n + 1 + k by omega]; exact r3
    · rw [r4 j hj]
      show (if j = 0 then T' else X j) = _
      rw [if_neg hj]
    · rw [r5 i hi, sF1, if_neg hi, sA1]
    · rw [r6 i hi, sF2]
      show (if i = 1 then _ else o.2 i) = _
      rw [if_neg hi]
theorem write_both {X : Nat → Ob} {o : Ob} {n : Nat} {B : Nat → Nat} (ht : TX (X 0) o n B) (x : Int32) (y : Int64) : ∃ r X' o' n' B', f_X7_write X x y = some (r, X') ∧ f_X8_write o x y = some (r, o') ∧ TX (X' 0) o' n' B' ∧ (∀ j, j ≠ 0 → X' j = X j) ∧ (∀ i, i ≠ 0 → o'.1 i = o.1 i) ∧ (∀ i, i ≠ 1 → o'.2 i = o.2 i) := by
  have hn := ht.1
  unfold f_X7_write f_X8_write f_X5_size
  rw [inb_lit (lo := 1) (hi := 8) (by omega) (by omega) 1 8 (by decide) (by decide), bd_s]
  have c1 : (x < (1 : Int32)) = ¬ ((1 : Int) ≤ x.toInt) := by
    rw [Int32.lt_iff_toInt_lt, show (1 : Int32).toInt = 1 from by decide]; apply propext; omega
  have c2 : (x ≤ (8 : Int32)) = (x.toInt ≤ 8) := by
    rw [Int32.le_iff_toInt_le, show (8 : Int32).toInt = 8 from by decide]
  have no : ∀ z : Int32, ∃ r X' o' n' B', some (z, X) = some (r, X') ∧ some (z, o) = some (r, o') ∧ TX (X' 0) o' n' B' ∧ (∀ j, j ≠ 0 → X' j = X j) ∧ (∀ i, i ≠ 0 → o'.1 i = o.1 i) ∧ (∀ i, i ≠ 1 → o'.2 i = o.2 i) := fun z => ⟨z, X, o, n, B, rfl, rfl, ht, fun _ _ => rfl, fun _ _ => rfl, fun _ _ => rfl⟩
  by_cases q1 : (1 : Int) ≤ x.toInt
  · by_cases q2 : x.toInt ≤ 8
    · obtain ⟨k, hk, rfl⟩ : ∃ m, m < 2 ^ 31 ∧ x = nI m := nI_of (by rw [Int32.lt_iff_toInt_lt, show (0 : Int32).toInt = 0 from by decide]; omega)
      have ek := nI_toInt hk
      have e3 : (decide (((1 : Nat) : Int) ≤ (nI k).toInt) && decide ((nI k).toInt ≤ ((8 : Nat) : Int))) = true := by
        rw [ek] at q1 q2 ⊢
        simp; omega
      rw [e3, bd_s, if_neg (show ¬ b2i true = (0 : Int32) by decide), if_neg (by rw [c1]; exact not_not_intro q1), if_pos (by rw [c2]; exact q2), ht.2.1, ht.2.2.1, nI_add]
      by_cases q3 : n + k ≤ 300
      · rw [if_pos (show nI (n + k) ≤ (300 : Int32) from nI_le (b := 300) q3 (by omega)), if_pos (show nI (n + k) ≤ (300 : Int32) from nI_le (b := 300) q3 (by omega)), nm_s, nm_s]
        obtain ⟨X', o', B', r1, r2, r3, r4, r5, r6⟩ := write_loop y k n 512 512 X o B ht q3 (by omega) (by omega) (by omega)
        have r1 : L_X7_write_36 y 512 (nI k - (1 : Int32)) X = some X' := r1
        have r2 : L_X8_write_34 y 512 (nI k - (1 : Int32)) o = some o' := r2
        rw [r1, r2]
        refine ⟨nI (n + k), X', o', n + k, B', ?_, ?_, r3, r4, r5, r6⟩
        · show some ((X' 0).1 1, X') = _
          rw [r3.2.1]
        · show some (o'.1 0, o') = _
          rw [r3.2.2.1]
      · have e : ¬ nI (n + k) ≤ (300 : Int32) := by rw [l_300, nI_leI (by omega) (by omega)]; exact q3
        rw [if_neg e, if_neg e]
        exact no _
    · have e3 : (decide (((1 : Nat) : Int) ≤ x.toInt) && decide (x.toInt ≤ ((8 : Nat) : Int))) = false := by
        simp; omega
      rw [e3, bd_s, if_pos (show b2i false = (0 : Int32) from rfl), if_neg (by rw [c1]; exact not_not_intro q1), if_neg (by rw [c2]; exact q2)]
      exact no _
  · have e3 : (decide (((1 : Nat) : Int) ≤ x.toInt) && decide (x.toInt ≤ ((8 : Nat) : Int))) = false := by
      simp; omega
    rw [e3, bd_s, if_pos (show b2i false = (0 : Int32) from rfl), if_pos (by rw [c1]; exact q1)]
    exact no _
