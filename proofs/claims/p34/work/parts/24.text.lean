/-! ===== the text: its figures (own text) ===== -/
def TX (T o : Ob) (n : Nat) (B : Nat → Nat) : Prop := n ≤ 300 ∧ T.1 1 = nI n ∧ o.1 0 = nI n ∧ ∀ i, i < n → B i < 256 ∧ T.2 0 i = nI (B i) ∧ o.2 1 i = nI (B i)
/-- what reading touches: the place, the town told of (block 1), what is told -/
def tch (i j : Nat) : Prop := (j = 1 ∧ ((2 ≤ i ∧ i ≤ 5) ∨ i = 11 ∨ i = 12)) ∨ (6 ≤ i ∧ i ≤ 10 ∧ 8 ≤ j ∧ j < 16)
def Fr (o o' : Ob) : Prop := (∀ i, i ≠ 20 → o'.1 i = o.1 i) ∧ ∀ i j, i < 21 → ¬ tch i j → o'.2 i j = o.2 i j
theorem Fr.rf (o : Ob) : Fr o o := ⟨fun _ _ => rfl, fun _ _ _ _ => rfl⟩
theorem Fr.tr {a b c : Ob} (h1 : Fr a b) (h2 : Fr b c) : Fr a c := ⟨fun i hi => (h2.1 i hi).trans (h1.1 i hi), fun i j hi hj => (h2.2 i j hi hj).trans (h1.2 i j hi hj)⟩
theorem Fr.sF {o : Ob} {x : Int32} : Fr o (sF o 20 x) := ⟨fun i hi => by show (if i = 20 then x else o.1 i) = _; rw [if_neg hi], fun _ _ _ _ => rfl⟩
theorem Fr.sA {o : Ob} {k j : Nat} {x : Int32} (h : 21 ≤ k ∨ tch k j) : Fr o (sA o k j x) := ⟨fun _ _ => rfl, fun i j' hi ht => by
  show (if i = k then upd (o.2 k) j x else o.2 i) j' = _
  by_cases q : i = k
  · subst q
    rw [if_pos rfl]
    have : ¬ j' = j := fun e => by
      subst e
      rcases h with h | h
      · omega
      · exact ht h
    show (if j' = j then x else o.2 i j') = _
    rw [if_neg this]
  · rw [if_neg q]⟩
theorem Fr.tx {T o o' : Ob} {n : Nat} {B : Nat → Nat} (h : Fr o o') (ht : TX T o n B) : TX T o' n B :=
  ⟨ht.1, ht.2.1, (h.1 0 (by omega)).trans ht.2.2.1, fun i hi => ⟨(ht.2.2.2 i hi).1, (ht.2.2.2 i hi).2.1, (h.2 1 i (by omega) (by unfold tch; omega)).trans (ht.2.2.2 i hi).2.2⟩⟩
def byt (n : Nat) (B : Nat → Nat) (p : Nat) : Nat := if p < n then B p else 0
def digit (n : Nat) (B : Nat → Nat) (p : Nat) : Bool := decide (48 ≤ byt n B p) && decide (byt n B p ≤ 57)
theorem byt_lt {T o : Ob} {n : Nat} {B : Nat → Nat} (h : TX T o n B) (p : Nat) : byt n B p < 256 := by
  unfold byt
  split
  · rename_i q; exact (h.2.2.2 p q).1
  · omega
theorem at5_c {T o : Ob} {n : Nat} {B : Nat → Nat} (h : TX T o n B) {p : Nat} (hp : p < 2147483648) : f_X5_at T (nI p) = some (if p < n then nI (byt n B p) else (-1 : Int32)) := by
  have h0 := h.1
  unfold f_X5_at
  rw [h.2.1, if_neg (show ¬ nI p < (0 : Int32) from fun e => absurd e (nI_pos hp))]
  by_cases q : p < n
  · rw [if_neg (by rw [nI_leI (by omega) (by omega)]; omega), if_neg (by rw [l_300, nI_leI (by omega) (by omega)]; omega), cl_nI hp, ck_nI hp, gd_d (by omega), if_pos q, (h.2.2.2 p q).2.1]
    unfold byt
    rw [if_pos q]
  · rw [if_pos (nI_le (by omega) (by omega)), if_neg q]
theorem byte_m {T o : Ob} {n : Nat} {B : Nat → Nat} (h : TX T o n B) {p : Nat} (hp : p < 2147483648) : f_X8_byteAt o (nI p) = some (nI (byt n B p)) := by
  have h0 := h.1
  unfold f_X8_byteAt byt
  rw [h.2.2.1]
  by_cases q : p < n
  · rw [if_neg (by rw [nI_leI (by omega) (by omega)]; omega), cl_nI hp, ck_nI hp, gd_d (by omega), if_pos q, (h.2.2.2 p q).2.2]
  · rw [if_pos (nI_le (by omega) (by omega)), if_neg q]; rfl
def dend (n : Nat) (B : Nat → Nat) : Nat → Nat → Nat
  | 0, p => p
  | f + 1, p => if digit n B p then dend n B f (p + 1) else p
theorem dend_ge (n : Nat) (B : Nat → Nat) : ∀ f p, p ≤ dend n B f p ∧ dend n B f p ≤ p + f
  | 0, p => ⟨Nat.le_refl _, Nat.le_refl _⟩
  | f + 1, p => by
    rw [dend]
    have h := dend_ge n B f (p + 1)
    split
    · omega
    · omega
theorem dend_dig (n : Nat) (B : Nat → Nat) : ∀ f p j, p ≤ j → j < dend n B f p → digit n B j = true
  | 0, p, j, h1, h2 => by rw [dend] at h2; omega
  | f + 1, p, j, h1, h2 => by
    rw [dend] at h2
    split at h2
    · rename_i c
      by_cases q : j = p
      · rw [q]; exact c
      · exact dend_dig n B f (p + 1) j (by omega) h2
    · omega
theorem dend_stop (n : Nat) (B : Nat → Nat) : ∀ f p, dend n B f p < p + f → digit n B (dend n B f p) = false
  | 0, p, h => by rw [dend] at h; omega
  | f + 1, p, h => by
    rw [dend] at h ⊢
    split at h
    · rename_i c
      rw [if_pos c]
      exact dend_stop n B f (p + 1) (by omega)
    · rename_i c
      rw [if_neg c]
      simpa using c
theorem dend_43 (n : Nat) (B : Nat → Nat) (p : Nat) : dend n B 4 p = if dend n B 3 p = p + 3 ∧ digit n B (p + 3) = true then p + 4 else dend n B 3 p := by
  have e3 : p + 1 + 1 + 1 = p + 3 := by omega
  by_cases h0 : digit n B p = true
  · by_cases h1 : digit n B (p + 1) = true
    · by_cases h2 : digit n B (p + 1 + 1) = true
      · by_cases h3 : digit n B (p + 3) = true
        · simp [dend, h0, h1, h2, h3, e3]
        · simp [dend, h0, h1, h2, h3, e3]
      · simp [dend, h0, h1, h2]
    · simp [dend, h0, h1]
  · simp [dend, h0]
theorem lt48 : ((-1 : Int32) < (48 : Int32)) := by decide
theorem end_c {T o : Ob} {n : Nat} {B : Nat → Nat} (h : TX T o n B) {p : Nat} (hp : p < 1000) : f_X2_figuresEnd T (nI p) = some (nI (dend n B 3 p)) := by
  have main : ∀ f q k, q + f = p + 3 → f < k → L_X2_figuresEnd_2 (nI p) T k (nI q) = some (nI (dend n B f q)) := by
    intro f
    induction f with
    | zero =>
      intro q k h1 h2
      obtain ⟨k, rfl⟩ : ∃ i, k = i + 1 := ⟨k - 1, by omega⟩
      show L_X2_figuresEnd_2_step (nI p) T (L_X2_figuresEnd_2 (nI p) T k) (nI q) = _
      unfold L_X2_figuresEnd_2_step
      rw [if_pos (by rw [l_3, nI_add, nI_leI (by omega) (by omega)]; omega)]; rfl
    | succ f ih =>
      intro q k h1 h2
      obtain ⟨k, rfl⟩ : ∃ i, k = i + 1 := ⟨k - 1, by omega⟩
      show L_X2_figuresEnd_2_step (nI p) T (L_X2_figuresEnd_2 (nI p) T k) (nI q) = _
      have hb := byt_lt h q
      unfold L_X2_figuresEnd_2_step
      rw [if_neg (by rw [l_3, nI_add, nI_leI (by omega) (by omega)]; omega), at5_c h (by omega), bd_s, bd_s, dend]
      by_cases q0 : q < n
      · rw [if_pos q0]
        by_cases q1 : byt n B q < 48
        · have : digit n B q = false := by unfold digit; have : ¬ 48 ≤ byt n B q := by omega
                                           simp [this]
          rw [if_pos (by rw [l_48, nI_ltI (by omega) (by omega)]; exact q1), this]; rfl
        · rw [if_neg (by rw [l_48, nI_ltI (by omega) (by omega)]; exact q1)]
          by_cases q2 : 57 < byt n B q
          · have : digit n B q = false := by unfold digit; have : ¬ byt n B q ≤ 57 := by omega
                                             simp [this]
            rw [if_pos (by rw [l_57, nI_ltI (by omega) (by omega)]; exact q2), this]; rfl
          · have : digit n B q = true := by unfold digit; simp; omega
            rw [if_neg (by rw [l_57, nI_ltI (by omega) (by omega)]; exact q2), this, nm_s, l_1, nI_add, if_pos rfl]
            exact ih (q + 1) k (by omega) (by omega)
      · have : digit n B q = false := by unfold digit byt; rw [if_neg q0]; rfl
        rw [if_neg q0, if_pos lt48, this]; rfl
  unfold f_X2_figuresEnd
  rw [main 3 p 512 rfl (by omega)]; rfl
/-- the value of k figures from p on -/
def fval (n : Nat) (B : Nat → Nat) (p : Nat) : Nat → Nat
  | 0 => 0
  | k + 1 => 10 * fval n B p k + byt n B (p + k) - 48
theorem fval_lt {n : Nat} {B : Nat → Nat} {p : Nat} : ∀ k, (∀ j, j < k → digit n B (p + j) = true) → fval n B p k < 10 ^ k
  | 0, _ => by simp [fval]
  | k + 1, h => by
    have ih := fval_lt k (fun j hj => h j (by omega))
    have hd := h k (by omega)
    unfold digit at hd
    rw [Bool.and_eq_true, decide_eq_true_iff, decide_eq_true_iff] at hd
    rw [fval, Nat.pow_succ]
    omega
theorem val_c {T o : Ob} {n : Nat} {B : Nat → Nat} (h : TX T o n B) {p e : Nat} (hp : p < 1000) (he : p ≤ e) (he2 : e ≤ p + 3) (hd : ∀ j, p ≤ j → j < e → digit n B j = true) : f_X2_valueOf T (nI p) (nI e) = some (nI (fval n B p (e - p))) := by
  have main : ∀ d k i, k + d = e - p → d < i → L_X2_valueOf_5 (nI e) T i (nI (fval n B p k)) (nI (p + k)) = some (nI (fval n B p (e - p))) := by
    intro d
    induction d with
    | zero =>
      intro k i h1 h2
      obtain ⟨i, rfl⟩ : ∃ k, i = k + 1 := ⟨i - 1, by omega⟩
      show L_X2_valueOf_5_step (nI e) T (L_X2_valueOf_5 (nI e) T i) _ _ = _
      unfold L_X2_valueOf_5_step
      rw [if_pos (nI_le (by omega) (by omega)), show k = e - p by omega]
    | succ d ih =>
      intro k i h1 h2
      obtain ⟨i, rfl⟩ : ∃ k, i = k + 1 := ⟨i - 1, by omega⟩
      show L_X2_valueOf_5_step (nI e) T (L_X2_valueOf_5 (nI e) T i) _ _ = _
      unfold L_X2_valueOf_5_step
      have hk := hd (p + k) (by omega) (by omega)
      have hk2 := hk
      unfold digit at hk
      rw [Bool.and_eq_true, decide_eq_true_iff, decide_eq_true_iff] at hk
      have hn : p + k < n := by
        rcases Nat.lt_or_ge (p + k) n with q | q
        · exact q
        · have : byt n B (p + k) = 0 := by unfold byt; rw [if_neg (by omega)]
          omega
      have hv := fval_lt (n := n) (B := B) (p := p) k (fun j hj => hd (p + j) (by omega) (by omega))
      have hpow : 10 ^ k ≤ 10 ^ 3 := Nat.pow_le_pow_right (n := 10) (by omega) (show k ≤ 3 by omega)
      rw [if_neg (by rw [nI_leI (by omega) (by omega)]; omega), at5_c h (by omega), bd_s, if_pos hn, nm_s, nm_s, l_10, pk_mul, nI_add, l_48, pk_sub (by omega), l_1, nI_add]
      exact ih (k + 1) i (by omega) (by omega)
  unfold f_X2_valueOf
  have := main (e - p) 0 512 (by omega) (by omega)
  rw [l_0]
  rw [show nI (p + 0) = nI p from rfl, show nI (fval n B p 0) = nI 0 from rfl] at this
  rw [this]; rfl
/-- one number, its sign after it -/
def rdn (n : Nat) (B : Nat → Nat) (p sg : Nat) : Option (Nat × Nat) := if p < dend n B 3 p ∧ byt n B (dend n B 3 p) = sg then some (dend n B 3 p + 1, fval n B p (dend n B 3 p - p)) else none
theorem num_c {T o : Ob} {n : Nat} {B : Nat → Nat} (h : TX T o n B) {p i k : Nat} (hp : p < 1000) (hi : i < k) (hk : k ≤ 5) (o0 : Ob) (self : Int32 → Int32 → Ob → Option (Nat × Int32 × Ob)) :
    L_X2_readNumbers_14_step (nI k) T self (nI p) (nI i) o0 = match rdn n B p (if i + 1 = k then 59 else 44) with
      | none => some (0, nI p, o0)
      | some (q, x) => self (nI q) (nI (i + 1)) (sA o0 0 i (nI x)) := by
  have hge := dend_ge n B 3 p
  have hdig := dend_dig n B 3 p
  have hb := byt_lt h (dend n B 3 p)
  have J : ∀ sg : Nat, 44 ≤ sg → sg < 60 → J_X2_readNumbers_53l14 self (nI sg) (nI k) (nI p) (nI i) (nI (dend n B 3 p)) o0 T = match rdn n B p sg with
      | none => some (0, nI p, o0)
      | some (q, x) => self (nI q) (nI (i + 1)) (sA o0 0 i (nI x)) := by
    intro sg hs1 hs2
    unfold J_X2_readNumbers_53l14 rdn
    by_cases q : dend n B 3 p = p
    · rw [if_pos (by rw [q]), if_neg (by omega)]
    · rw [if_neg (by rw [nI_eq (by omega) (by omega)]; exact q), at5_c h (by omega), bd_s]
      by_cases q2 : byt n B (dend n B 3 p) = sg
      · have hn : dend n B 3 p < n := by
          rcases Nat.lt_or_ge (dend n B 3 p) n with q | q
          · exact q
          · have : byt n B (dend n B 3 p) = 0 := by unfold byt; rw [if_neg (by omega)]
            omega
        rw [if_pos hn, q2, if_pos rfl, if_pos ⟨by omega, rfl⟩, val_c h hp hge.1 hge.2 hdig]
        simp (disch := omega) only [bd_s, nm_s, cl_nI, ck_nI, gd_d, l_1, nI_add]
      · rw [if_neg (c := p < dend n B 3 p ∧ byt n B (dend n B 3 p) = sg) (by rintro ⟨-, c⟩; exact q2 c)]
        by_cases hn : dend n B 3 p < n
        · rw [if_pos hn, if_neg (by rw [nI_eq (by omega) (by omega)]; exact q2)]
        · rw [if_neg hn, if_neg]
          intro e
          have := nI_pos (n := sg) (by omega)
          rw [← e] at this
          exact this (by decide)
  unfold L_X2_readNumbers_14_step
  rw [if_neg (by rw [nI_leI (by omega) (by omega)]; omega), if_neg (by rw [l_5, nI_leI (by omega) (by omega)]; omega), end_c h hp, bd_s, l_1, pk_sub (by omega), l_59, l_44]
  by_cases q : i + 1 = k
  · rw [if_pos (by rw [nI_eq (by omega) (by omega)]; omega), if_pos q, J 59 (by omega) (by omega)]
  · rw [if_neg (by rw [nI_eq (by omega) (by omega)]; omega), if_neg q, J 44 (by omega) (by omega)]
theorem dig_m {x : Nat} (hx : x < 256) : f_X8_in (nI x).toInt64 (48 : Int64) (57 : Int64) = some (b2i (decide (48 ≤ x) && decide (x ≤ 57))) := by
  rw [inb_lit (lo := 48) (hi := 57) (by omega) (by omega) 48 57 (by decide) (by decide), nI_toInt (by omega)]
  congr 2
  have e1 : decide (((48 : Nat) : Int) ≤ (x : Int)) = decide (48 ≤ x) := by apply decide_eq_decide.mpr; omega
  have e2 : decide ((x : Int) ≤ ((57 : Nat) : Int)) = decide (x ≤ 57) := by apply decide_eq_decide.mpr; omega
  rw [e1, e2]
theorem figs_m {T o : Ob} {n : Nat} {B : Nat → Nat} (h : TX T o n B) {p : Nat} (hp : p < 1000) (ho : o.1 20 = nI p) (x1 x2 : Int32) : ∃ o', L_X8_figures_12 x1 x2 512 (0 : Int32) (0 : Int32) o = some (nI (dend n B 4 p - p), nI (fval n B p (dend n B 4 p - p)), o') ∧ Fr o o' ∧ o'.1 20 = nI (dend n B 4 p) ∧ o'.2 = o.2 := by
  have main : ∀ f k i o1, k + f = 4 → f < i → TX T o1 n B → Fr o o1 → o1.1 20 = nI (p + k) → o1.2 = o.2 → (∀ j, j < k → digit n B (p + j) = true) → ∃ o', L_X8_figures_12 x1 x2 i (nI k) (nI (fval n B p k)) o1 = some (nI (dend n B f (p + k) - p), nI (fval n B p (dend n B f (p + k) - p)), o') ∧ Fr o o' ∧ o'.1 20 = nI (dend n B f (p + k)) ∧ o'.2 = o.2 := by
    intro f
    induction f with
    | zero =>
      intro k i o1 h1 h2 ht hf hpl h2s hdg
      obtain ⟨i, rfl⟩ : ∃ k, i = k + 1 := ⟨i - 1, by omega⟩
      refine ⟨o1, ?_, hf, hpl, h2s⟩
      show L_X8_figures_12_step x1 x2 (L_X8_figures_12 x1 x2 i) (nI k) _ o1 = _
      unfold L_X8_figures_12_step
      have hb := byt_lt ht (p + k)
      rw [hpl, byte_m ht (by omega), bd_s, dig_m hb, bd_s, dend, show p + k - p = k by omega]
      split
      · rfl
      · rw [if_pos (by rw [l_4, nI_leI (by omega) (by omega)]; omega)]
    | succ f ih =>
      intro k i o1 h1 h2 ht hf hpl h2s hdg
      obtain ⟨i, rfl⟩ : ∃ k, i = k + 1 := ⟨i - 1, by omega⟩
      have hb := byt_lt ht (p + k)
      have st : L_X8_figures_12_step x1 x2 (L_X8_figures_12 x1 x2 i) (nI k) (nI (fval n B p k)) o1 = if digit n B (p + k) then bd (some (nI (byt n B (p + k)))) (fun z3 => nm ((((10 : Int32) * nI (fval n B p k)) + z3) - (48 : Int32)) (fun v4 => nm (nI k + (1 : Int32)) (fun v5 => nm (sF o1 20 (nI (p + k) + (1 : Int32))) (fun s6 => L_X8_figures_12 x1 x2 i v5 v4 s6)))) else some (nI k, nI (fval n B p k), o1) := by
        unfold L_X8_figures_12_step
        rw [hpl, byte_m ht (by omega), bd_s, dig_m hb, bd_s]
        show (if b2i (digit n B (p + k)) = (0 : Int32) then _ else _) = _
        cases digit n B (p + k)
        · rfl
        · rw [if_neg (by decide), if_neg (by rw [l_4, nI_leI (by omega) (by omega)]; omega)]; rfl
      show ∃ o', L_X8_figures_12_step x1 x2 (L_X8_figures_12 x1 x2 i) (nI k) (nI (fval n B p k)) o1 = _ ∧ _
      rw [st, dend]
      cases q : digit n B (p + k)
      · refine ⟨o1, ?_, hf, ?_, h2s⟩
        · simp
        · simpa using hpl
      · have hq := q
        unfold digit at hq
        rw [Bool.and_eq_true, decide_eq_true_iff, decide_eq_true_iff] at hq
        have hv := fval_lt (n := n) (B := B) (p := p) k hdg
        have hpow : 10 ^ k ≤ 10 ^ 4 := Nat.pow_le_pow_right (n := 10) (by omega) (show k ≤ 4 by omega)
        rw [if_pos rfl, if_pos rfl, bd_s, nm_s, nm_s, nm_s, l_10, pk_mul, nI_add, l_48, pk_sub (by omega), l_1, nI_add, nI_add]
        have e : fval n B p (k + 1) = 10 * fval n B p k + byt n B (p + k) - 48 := rfl
        rw [← e, show p + k + 1 = p + (k + 1) by omega]
        exact ih (k + 1) i _ (by omega) (by omega) (Fr.sF.tx ht) (hf.tr Fr.sF) rfl h2s (fun j hj => by
          by_cases qj : j = k
          · rw [qj]; exact q
          · exact hdg j (by omega))
  have := main 4 0 512 o rfl (by omega) h (Fr.rf o) ho rfl (fun j hj => by omega)
  exact this
theorem num_m {T o : Ob} {n : Nat} {B : Nat → Nat} (h : TX T o n B) {p i k : Nat} (hp : p < 1000) (hi : i < k) (hk : k ≤ 5) (ho : o.1 20 = nI p) (self : Int32 → Ob → Option (Nat × Ob)) :
    (rdn n B p (if i + 1 = k then 59 else 44) = none → ∃ o', L_X8_figures_2_step (nI k) self (nI i) o = some (0, o') ∧ Fr o o') ∧ ∀ q x, rdn n B p (if i + 1 = k then 59 else 44) = some (q, x) → ∃ o', L_X8_figures_2_step (nI k) self (nI i) o = self (nI (i + 1)) o' ∧ Fr o o' ∧ o'.1 20 = nI q ∧ (∀ j, o'.2 21 j = if j = i then nI x else o.2 21 j) ∧ ∀ j, j < 21 → o'.2 j = o.2 j := by
  obtain ⟨o1, f1, f2, f3, f4⟩ := figs_m h hp ho (nI k) (nI i)
  have ht := f2.tx h
  have hge := dend_ge n B 3 p
  have hge4 := dend_ge n B 4 p
  have h43 := dend_43 n B p
  have cnt : f_X8_in (nI (dend n B 4 p - p)).toInt64 (1 : Int64) (3 : Int64) = some (b2i (decide (1 ≤ dend n B 4 p - p) && decide (dend n B 4 p - p ≤ 3))) := by
    rw [inb_lit (lo := 1) (hi := 3) (by omega) (by omega) 1 3 (by decide) (by decide), nI_toInt (by omega)]
    congr 2
    have e1 : decide (((1 : Nat) : Int) ≤ ((dend n B 4 p - p : Nat) : Int)) = decide (1 ≤ dend n B 4 p - p) := by apply decide_eq_decide.mpr; omega
    have e2 : decide (((dend n B 4 p - p : Nat) : Int) ≤ ((3 : Nat) : Int)) = decide (dend n B 4 p - p ≤ 3) := by apply decide_eq_decide.mpr; omega
    rw [e1, e2]
  have hb := byt_lt h (dend n B 4 p)
  have bm := byte_m ht (p := dend n B 4 p) (by omega)
  have J : ∀ sg : Nat, 44 ≤ sg → sg < 60 → J_X8_figures_107l2 self (nI (byt n B (dend n B 4 p))) (nI sg) (nI k) (nI i) (nI (fval n B p (dend n B 4 p - p))) o1 = if byt n B (dend n B 4 p) = sg then self (nI (i + 1)) (sF (sA o1 21 i (nI (fval n B p (dend n B 4 p - p)))) 20 (nI (dend n B 4 p + 1))) else some (0, o1) := by
    intro sg h1 h2
    unfold J_X8_figures_107l2
    have e : (sA o1 21 i (nI (fval n B p (dend n B 4 p - p)))).1 20 = nI (dend n B 4 p) := f3
    simp (disch := omega) only [bd_s, nm_s, cl_nI, ck_nI, gd_d, l_1, nI_add, eq_nI, e]
  have hsg : 44 ≤ (if i + 1 = k then 59 else 44) ∧ (if i + 1 = k then 59 else 44) < 60 := by split <;> omega
  have st : L_X8_figures_2_step (nI k) self (nI i) o = if 1 ≤ dend n B 4 p - p ∧ dend n B 4 p - p ≤ 3 then (if byt n B (dend n B 4 p) = (if i + 1 = k then 59 else 44) then self (nI (i + 1)) (sF (sA o1 21 i (nI (fval n B p (dend n B 4 p - p)))) 20 (nI (dend n B 4 p + 1))) else some (0, o1)) else some (0, o1) := by
    unfold L_X8_figures_2_step
    rw [if_neg (by rw [nI_leI (by omega) (by omega)]; omega), f1, bd_s]
    show bd (f_X8_in (nI (dend n B 4 p - p)).toInt64 (1 : Int64) (3 : Int64)) _ = _
    rw [cnt, bd_s]
    by_cases q : 1 ≤ dend n B 4 p - p ∧ dend n B 4 p - p ≤ 3
    · rw [if_pos q, if_neg (by rw [decide_eq_true q.1, decide_eq_true q.2]; decide)]
      show bd (f_X8_byteAt o1 (o1.1 20)) _ = _
      rw [f3, bm, bd_s, l_1, pk_sub (by omega), l_59, l_44]
      by_cases q2 : i + 1 = k
      · rw [if_pos (nI_le (by omega) (by omega)), if_pos q2]
        exact J 59 (by omega) (by omega)
      · rw [if_neg (by rw [nI_leI (by omega) (by omega)]; omega), if_neg q2]
        exact J 44 (by omega) (by omega)
    · rw [if_neg q, if_pos]
      have : (decide (1 ≤ dend n B 4 p - p) && decide (dend n B 4 p - p ≤ 3)) = false := by
        cases c : (decide (1 ≤ dend n B 4 p - p) && decide (dend n B 4 p - p ≤ 3))
        · rfl
        · rw [Bool.and_eq_true, decide_eq_true_iff, decide_eq_true_iff] at c; exact absurd c q
      rw [this]; rfl
  have hsg' : (if i + 1 = k then 59 else 44) = 44 ∨ (if i + 1 = k then 59 else 44) = 59 := by split <;> omega
  generalize (if i + 1 = k then 59 else 44) = sg at *
  rw [st]
  by_cases c : dend n B 3 p = p + 3 ∧ digit n B (p + 3) = true
  · have e4 : dend n B 4 p = p + 4 := by rw [h43, if_pos c]
    have hr : rdn n B p sg = none := by
      unfold rdn
      rw [if_neg]
      rintro ⟨-, e⟩
      have hd := c.2
      unfold digit at hd
      rw [Bool.and_eq_true, decide_eq_true_iff, decide_eq_true_iff] at hd
      rw [c.1] at e
      omega
    rw [hr, if_neg (by omega)]
    exact ⟨fun _ => ⟨o1, rfl, f2⟩, fun q x hq => by cases hq⟩
  · have e4 : dend n B 4 p = dend n B 3 p := by rw [h43, if_neg c]
    rw [e4]
    unfold rdn
    by_cases q : p < dend n B 3 p
    · have q3 : 1 ≤ dend n B 3 p - p ∧ dend n B 3 p - p ≤ 3 := by omega
      by_cases q2 : byt n B (dend n B 3 p) = sg
      · have q4 : p < dend n B 3 p ∧ byt n B (dend n B 3 p) = sg := ⟨q, q2⟩
        rw [if_pos q4, if_pos q3, if_pos q2]
        refine ⟨fun hh => (by cases hh), fun q' x' hh => ?_⟩
        cases hh
        refine ⟨_, rfl, (f2.tr (Fr.sA (Or.inl (by omega)))).tr Fr.sF, rfl, fun j => ?_, fun j hj => ?_⟩
        · show (sA o1 21 i (nI (fval n B p (dend n B 3 p - p)))).2 21 j = _
          rw [tbl_upd, f4]
        · show (if j = 21 then _ else o1.2 j) = _
          rw [if_neg (by omega), f4]
      · have q4 : ¬ (p < dend n B 3 p ∧ byt n B (dend n B 3 p) = sg) := fun e => q2 e.2
        rw [if_neg q4, if_pos q3, if_neg q2]
        exact ⟨fun _ => ⟨o1, rfl, f2⟩, fun q x hq => by cases hq⟩
    · have q3 : ¬ (1 ≤ dend n B 3 p - p ∧ dend n B 3 p - p ≤ 3) := by omega
      have q4 : ¬ (p < dend n B 3 p ∧ byt n B (dend n B 3 p) = sg) := fun e => q e.1
      rw [if_neg q4, if_neg q3]
      exact ⟨fun _ => ⟨o1, rfl, f2⟩, fun q x hq => by cases hq⟩
