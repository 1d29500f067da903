/-! ===== numbers and bits (own text) ===== -/
theorem nI_or (a b : Nat) : nI a ||| nI b = nI (a ||| b) := by
  apply Int32.toBitVec_inj.1
  show BitVec.ofNat 32 a ||| BitVec.ofNat 32 b = BitVec.ofNat 32 (a ||| b)
  apply BitVec.eq_of_getLsbD_eq
  intro i hi
  simp [hi]
theorem nI_and (a b : Nat) : nI a &&& nI b = nI (a &&& b) := by
  apply Int32.toBitVec_inj.1
  show BitVec.ofNat 32 a &&& BitVec.ofNat 32 b = BitVec.ofNat 32 (a &&& b)
  apply BitVec.eq_of_getLsbD_eq
  intro i hi
  simp [hi]
def sd (a b : Nat) : Nat := a &&& (255 ^^^ b)
theorem t255 (j : Nat) : (255 : Nat).testBit j = decide (j < 8) := by
  rw [show (255 : Nat) = 2 ^ 8 - 1 from rfl, Nat.testBit_two_pow_sub_one]
theorem tb_hi {a j : Nat} (h : a < 256) (hj : 8 ≤ j) : a.testBit j = false :=
  Nat.testBit_lt_two_pow (Nat.lt_of_lt_of_le h (Nat.pow_le_pow_right (n := 2) (by omega) hj))
theorem tb_lt {a j : Nat} (h : a < 256) (ht : a.testBit j = true) : j < 8 := by
  rcases Nat.lt_or_ge j 8 with q | q
  · exact q
  · rw [tb_hi h q] at ht; cases ht
theorem sd_tb {a b : Nat} (h : a < 256) (j : Nat) : (sd a b).testBit j = (a.testBit j && !b.testBit j) := by
  unfold sd
  rw [Nat.testBit_and, Nat.testBit_xor, t255]
  by_cases hj : j < 8
  · simp [hj]
  · rw [tb_hi h (by omega)]; simp
theorem nI_andn {a : Nat} (b : Nat) (h : a < 256) : nI a &&& (nI b ^^^ (-1 : Int32)) = nI (sd a b) := by
  apply Int32.toBitVec_inj.1
  show BitVec.ofNat 32 a &&& (BitVec.ofNat 32 b ^^^ BitVec.allOnes 32) = BitVec.ofNat 32 (sd a b)
  apply BitVec.eq_of_getLsbD_eq
  intro i hi
  rw [BitVec.getLsbD_and, BitVec.getLsbD_xor, BitVec.getLsbD_allOnes, BitVec.getLsbD_ofNat, BitVec.getLsbD_ofNat, BitVec.getLsbD_ofNat, sd_tb h]
  simp [hi]
theorem l_0 : (0 : Int32) = nI 0 := rfl
theorem l_1 : (1 : Int32) = nI 1 := rfl
theorem l_2 : (2 : Int32) = nI 2 := rfl
theorem l_3 : (3 : Int32) = nI 3 := rfl
theorem l_4 : (4 : Int32) = nI 4 := rfl
theorem l_5 : (5 : Int32) = nI 5 := rfl
theorem l_6 : (6 : Int32) = nI 6 := rfl
theorem l_7 : (7 : Int32) = nI 7 := rfl
theorem l_8 : (8 : Int32) = nI 8 := rfl
theorem l_9 : (9 : Int32) = nI 9 := rfl
theorem l_10 : (10 : Int32) = nI 10 := rfl
theorem l_16 : (16 : Int32) = nI 16 := rfl
theorem l_20 : (20 : Int32) = nI 20 := rfl
theorem l_32 : (32 : Int32) = nI 32 := rfl
theorem l_44 : (44 : Int32) = nI 44 := rfl
theorem l_48 : (48 : Int32) = nI 48 := rfl
theorem l_57 : (57 : Int32) = nI 57 := rfl
theorem l_59 : (59 : Int32) = nI 59 := rfl
theorem l_60 : (60 : Int32) = nI 60 := rfl
theorem l_99 : (99 : Int32) = nI 99 := rfl
theorem l_100 : (100 : Int32) = nI 100 := rfl
theorem l_107 : (107 : Int32) = nI 107 := rfl
theorem l_108 : (108 : Int32) = nI 108 := rfl
theorem l_112 : (112 : Int32) = nI 112 := rfl
theorem l_255 : (255 : Int32) = nI 255 := rfl
theorem l_256 : (256 : Int32) = nI 256 := rfl
theorem l_300 : (300 : Int32) = nI 300 := rfl
theorem l_9999 : (9999 : Int32) = nI 9999 := rfl
theorem nI_andn' {a : Nat} (b : Nat) (h : a < 256) : nI a &&& (nI b ^^^ (-nI 1)) = nI (sd a b) := nI_andn b h
def b2i (b : Bool) : Int32 := if b then 1 else 0
theorem b2i_z (b : Bool) : (b2i b = nI 0) = (b = false) := by cases b <;> simp [b2i] <;> decide
theorem b2i_o (b : Bool) : (b2i b = nI 1) = (b = true) := by cases b <;> simp [b2i] <;> decide
theorem b2i_ite (b : Bool) : b2i b = nI (if b = true then 1 else 0) := by cases b <;> rfl
theorem gd_ckz {α : Type} (b : Bool) (o : Option α) : gd (ckz (b2i b)) o = o := by cases b <;> rfl
theorem b2i_n (b : Bool) : b2i b = nI (if b then 1 else 0) := by cases b <;> rfl
theorem ckz_b (b : Bool) : ckz (b2i b) = true := by cases b <;> decide
theorem bd_s {α β : Type} (x : α) (k : α → Option β) : bd (some x) k = k x := rfl
theorem nm_s {α β : Type} (x : α) (k : α → β) : nm x k = k x := rfl
theorem gd_t {α : Type} (o : Option α) : gd true o = o := rfl
theorem gd_d {α : Type} {c : Prop} [Decidable c] (h : c) (o : Option α) : gd (decide c) o = o := by rw [decide_eq_true h]; rfl
theorem le_nI {a b : Nat} (ha : a < 2147483648) (hb : b < 2147483648) : (nI a ≤ nI b) = (a ≤ b) := propext (nI_leI ha hb)
theorem lt_nI {a b : Nat} (ha : a < 2147483648) (hb : b < 2147483648) : (nI a < nI b) = (a < b) := propext (nI_ltI ha hb)
theorem eq_nI {a b : Nat} (ha : a < 2147483648) (hb : b < 2147483648) : (nI a = nI b) = (a = b) := propext (nI_eq ha hb)
theorem cl_nI {a : Nat} (ha : a < 2147483648) : (nI a).toNatClampNeg = a := nI_clamp ha
theorem ck_nI {a n : Nat} (ha : a < 2147483648) : ck (nI a) n = decide (a < n) := by
  unfold ck
  rw [cl_nI ha]
  have h : ¬ (nI a < 0) := nI_pos ha
  rw [decide_eq_false h]; simp
theorem sh1_nI {k : Nat} (hk : k < 31) : nI 1 <<< (nI k &&& 31) = nI (2 ^ k) := by
  have h := pk_shlN (n := 1) (nI k &&& 31) k (by
    have : ∀ n, n < 32 → ((nI n &&& 31).toBitVec.smod 32).toNat = n := by decide +kernel
    exact this k (by omega)) (by
      rw [Nat.one_mul]; exact Nat.pow_lt_pow_right (by omega) (by omega))
  rw [Nat.one_mul] at h
  exact h
theorem sh_nI {a k : Nat} (hk : k < 31) (h2 : a * 2 ^ k < 2 ^ 32) : nI a <<< (nI k &&& 31) = nI (a * 2 ^ k) :=
  pk_shlN (nI k &&& 31) k (by
    have : ∀ n, n < 32 → ((nI n &&& 31).toBitVec.smod 32).toNat = n := by decide +kernel
    exact this k (by omega)) h2
theorem shr_nI {a k : Nat} (ha : a < 2147483648) (hk : k < 31) : nI a >>> (nI k &&& 31) = nI (a / 2 ^ k) :=
  pk_shrN ha (nI k &&& 31) k (by
    have : ∀ n, n < 32 → ((nI n &&& 31).toBitVec.smod 32).toNat = n := by decide +kernel
    exact this k (by omega))
theorem bit_nI {a k : Nat} (ha : a < 2147483648) (hk : k < 31) : (nI a >>> (nI k &&& 31)) &&& nI 1 = b2i (a.testBit k) := by
  rw [shr_nI ha hk, nI_and, b2i_n, Nat.and_one_is_mod, Nat.testBit_eq_decide_div_mod_eq]
  have h2 : a / 2 ^ k % 2 = 0 ∨ a / 2 ^ k % 2 = 1 := by omega
  rcases h2 with h2 | h2 <;> simp [h2]
theorem has_c {a k : Nat} (ha : a < 2147483648) (hk : k < 31) : f_X7_has (nI a) (nI k) = some (b2i (a.testBit k)) := by
  unfold f_X7_has
  have h := bit_nI ha hk
  simp only [l_1, h, l_0, b2i_z]
  cases a.testBit k <;> rfl
theorem has_m {a k : Nat} (ha : a < 2147483648) (hk : k < 31) : f_X8_has (nI a) (nI k) = some (b2i (a.testBit k)) := by
  unfold f_X8_has
  have h := bit_nI ha hk
  simp only [l_1, h, b2i_o]
  cases a.testBit k <;> rfl
theorem has_t (x y : Int32) : ∃ b : Bool, f_X7_has x y = some (b2i b) := by
  unfold f_X7_has
  split
  · exact ⟨false, rfl⟩
  · exact ⟨true, rfl⟩
theorem bit_c {k : Nat} (hk : k < 31) : f_X7_bit (nI k) = some (nI (2 ^ k)) := by
  unfold f_X7_bit
  rw [l_1, sh1_nI hk]
theorem within_c {a : Nat} (b : Nat) (ha : a < 256) : f_X7_isWithin (nI a) (nI b) = some (b2i (decide (sd a b = 0))) := by
  unfold f_X7_isWithin
  have h : sd a b < 2147483648 := Nat.lt_of_le_of_lt (Nat.and_le_left) (by omega)
  simp (disch := omega) only [nI_andn b ha, l_0, eq_nI]
  by_cases hq : sd a b = 0 <;> simp [hq, b2i] <;> rfl
/-! masks -/
def msk (p : Nat → Bool) : Nat → Nat
  | 0 => 0
  | n + 1 => msk p n ||| (if p n then 2 ^ n else 0)
theorem msk_tb (p : Nat → Bool) (n j : Nat) : (msk p n).testBit j = (decide (j < n) && p j) := by
  induction n with
  | zero => simp [msk]
  | succ n ih =>
    rw [msk, Nat.testBit_or, ih]
    by_cases hp : p n = true
    · rw [if_pos hp, Nat.testBit_two_pow]
      by_cases h : n = j
      · subst h; simp [hp]
      · have : decide (j < n + 1) = decide (j < n) := by
          apply decide_eq_decide.mpr; omega
        simp [h, this]
    · rw [if_neg hp]
      have hf : p n = false := by simpa using hp
      by_cases h : n = j
      · subst h; simp [hf]
      · have : decide (j < n + 1) = decide (j < n) := by
          apply decide_eq_decide.mpr; omega
        simp [this]
theorem msk_lt (p : Nat → Bool) (n : Nat) : msk p n < 2 ^ n := by
  apply Nat.lt_pow_two_of_testBit
  intro i hi
  rw [msk_tb]
  have : ¬ i < n := by omega
  simp [this]
theorem msk_8 (p : Nat → Bool) {n : Nat} (h : n ≤ 8) : msk p n < 256 :=
  Nat.lt_of_lt_of_le (msk_lt p n) (Nat.pow_le_pow_right (n := 2) (by omega) h)
theorem ext8 {a b : Nat} (ha : a < 256) (hb : b < 256) (h : ∀ j, j < 8 → a.testBit j = b.testBit j) : a = b := by
  apply Nat.eq_of_testBit_eq
  intro j
  by_cases hj : j < 8
  · exact h j hj
  · rw [tb_hi ha (by omega), tb_hi hb (by omega)]
theorem or_lt8 {a b : Nat} (ha : a < 256) (hb : b < 256) : a ||| b < 256 := Nat.or_lt_two_pow (n := 8) ha hb
theorem and_lt8 {a : Nat} (b : Nat) (ha : a < 256) : a &&& b < 256 := Nat.lt_of_le_of_lt Nat.and_le_left ha
theorem sd_lt8 {a : Nat} (b : Nat) (ha : a < 256) : sd a b < 256 := Nat.lt_of_le_of_lt Nat.and_le_left ha
theorem pw_lt8 {k : Nat} (h : k < 8) : 2 ^ k < 256 := Nat.pow_lt_pow_right (a := 2) (by omega) (show k < 8 from h)
theorem pw_tb (k j : Nat) : (2 ^ k).testBit j = decide (k = j) := Nat.testBit_two_pow
/-- a loop that goes up by one -/
theorem loop_up {σ τ ρ : Type} (L : Nat → σ → Option ρ) (enc : Nat → τ → σ) (f : Nat → τ → τ) (g : τ → ρ) (N : Nat) (I : Nat → τ → Prop)
    (hs : ∀ n j t, j < N → I j t → L (n + 1) (enc j t) = L n (enc (j + 1) (f j t)) ∧ I (j + 1) (f j t))
    (he : ∀ n t, I N t → L (n + 1) (enc N t) = some (g t)) :
    ∀ d j t n, j + d = N → d < n → I j t → ∃ t', L n (enc j t) = some (g t') ∧ I N t' := by
  intro d
  induction d with
  | zero =>
    intro j t n h1 h2 h3
    obtain ⟨n, rfl⟩ : ∃ k, n = k + 1 := ⟨n - 1, by omega⟩
    have : j = N := by omega
    subst this
    exact ⟨t, he n t h3, h3⟩
  | succ d ih =>
    intro j t n h1 h2 h3
    obtain ⟨n, rfl⟩ : ∃ k, n = k + 1 := ⟨n - 1, by omega⟩
    obtain ⟨h4, h5⟩ := hs n j t (by omega) h3
    rw [h4]
    exact ih (j + 1) (f j t) n (by omega) (by omega) h5
