/-! ===== reading the text (own text) ===== -/
theorem rdn_some {n : Nat} {B : Nat → Nat} {p sg q x : Nat} (hs : 0 < sg) (h : rdn n B p sg = some (q, x)) : p < q ∧ q ≤ n ∧ x < 1000 := by
  have hge := dend_ge n B 3 p
  have hdig := dend_dig n B 3 p
  unfold rdn at h
  split at h
  · rename_i c
    cases h
    have hv := fval_lt (n := n) (B := B) (p := p) (dend n B 3 p - p) (fun j hj => hdig (p + j) (by omega) (by omega))
    have hpow : 10 ^ (dend n B 3 p - p) ≤ 10 ^ 3 := Nat.pow_le_pow_right (n := 10) (by omega) (by omega)
    refine ⟨by omega, ?_, by omega⟩
    rcases Nat.lt_or_ge (dend n B 3 p) n with q | q
    · omega
    · have : byt n B (dend n B 3 p) = 0 := by unfold byt; rw [if_neg (by omega)]
      omega
  · cases h
theorem nums_both {T : Ob} {n : Nat} {B : Nat → Nat} {k : Nat} (hk : k ≤ 5) : ∀ (d i p f g : Nat) (o0 o : Ob), TX T o n B → i + d = k → p < 400 → d < f → d < g → o.1 20 = nI p →
    (∃ z o0' o', L_X2_readNumbers_14 (nI k) T f (nI p) (nI i) o0 = some (0, z, o0') ∧ L_X8_figures_2 (nI k) g (nI i) o = some (0, o') ∧ Fr o o') ∨
    (∃ (q : Nat) (x : Nat → Nat) (o0' o' : Ob), L_X2_readNumbers_14 (nI k) T f (nI p) (nI i) o0 = some (1, nI q, o0') ∧ L_X8_figures_2 (nI k) g (nI i) o = some (1, o') ∧ Fr o o' ∧ (∀ j, j < 21 → o'.2 j = o.2 j) ∧ o'.1 20 = nI q ∧ p ≤ q ∧ (d = 0 → q = p) ∧ (1 ≤ d → p < q ∧ q ≤ n) ∧ ∀ j, j < k → (i ≤ j → o0'.2 0 j = nI (x j) ∧ o'.2 21 j = nI (x j) ∧ x j < 1000) ∧ (j < i → o0'.2 0 j = o0.2 0 j ∧ o'.2 21 j = o.2 21 j)) := by
  intro d
  induction d with
  | zero =>
    intro i p f g o0 o ht hi hp hf hg ho
    obtain ⟨f, rfl⟩ : ∃ k, f = k + 1 := ⟨f - 1, by omega⟩
    obtain ⟨g, rfl⟩ : ∃ k, g = k + 1 := ⟨g - 1, by omega⟩
    have : i = k := by omega
    subst this
    right
    refine ⟨p, fun _ => 0, o0, o, ?_, ?_, Fr.rf o, fun _ _ => rfl, ho, Nat.le_refl _, fun _ => rfl, fun h => (by omega), fun j hj => ⟨fun h => by omega, fun _ => ⟨rfl, rfl⟩⟩⟩
    · show L_X2_readNumbers_14_step (nI i) T (L_X2_readNumbers_14 (nI i) T f) (nI p) (nI i) o0 = _
      unfold L_X2_readNumbers_14_step
      rw [if_pos (nI_le (Nat.le_refl _) (by omega))]
    · show L_X8_figures_2_step (nI i) (L_X8_figures_2 (nI i) g) (nI i) o = _
      unfold L_X8_figures_2_step
      rw [if_pos (nI_le (Nat.le_refl _) (by omega))]
  | succ d ih =>
    intro i p f g o0 o ht hi hp hf hg ho
    obtain ⟨f, rfl⟩ : ∃ k, f = k + 1 := ⟨f - 1, by omega⟩
    obtain ⟨g, rfl⟩ : ∃ k, g = k + 1 := ⟨g - 1, by omega⟩
    have hn := ht.1
    have c := num_c ht (p := p) (i := i) (k := k) (by omega) (by omega) hk o0 (L_X2_readNumbers_14 (nI k) T f)
    have m := num_m ht (p := p) (i := i) (k := k) (by omega) (by omega) hk ho (L_X8_figures_2 (nI k) g)
    have hsg : 0 < (if i + 1 = k then 59 else 44) := by split <;> omega
    generalize (if i + 1 = k then 59 else 44) = sg at *
    cases hr : rdn n B p sg with
    | none =>
      rw [hr] at c
      obtain ⟨o', m1, m2⟩ := m.1 hr
      exact Or.inl ⟨nI p, o0, o', c, m1, m2⟩
    | some y =>
      obtain ⟨q, x⟩ := y
      rw [hr] at c
      have c : L_X2_readNumbers_14 (nI k) T (f + 1) (nI p) (nI i) o0 = L_X2_readNumbers_14 (nI k) T f (nI q) (nI (i + 1)) (sA o0 0 i (nI x)) := c
      obtain ⟨r1, r2, r3⟩ := rdn_some hsg hr
      obtain ⟨o1, m1, m2, m3, m4, m5⟩ := m.2 q x hr
      have m1 : L_X8_figures_2 (nI k) (g + 1) (nI i) o = L_X8_figures_2 (nI k) g (nI (i + 1)) o1 := m1
      rw [c, m1]
      rcases ih (i + 1) q f g (sA o0 0 i (nI x)) o1 (m2.tx ht) (by omega) (by omega) (by omega) (by omega) m3 with ⟨z, o0', o', u1, u2, u3⟩ | ⟨q', x', o0', o', u1, u2, u3, u4, u5, u6, u6z, u7, u8⟩
      · exact Or.inl ⟨z, o0', o', u1, u2, m2.tr u3⟩
      · right
        refine ⟨q', fun j => if j = i then x else x' j, o0', o', u1, u2, m2.tr u3, fun j hj => (u4 j hj).trans (m5 j hj), u5, (by omega), fun e => (by omega), fun _ => ?_, fun j hj => ⟨fun hji => ?_, fun hji => ?_⟩⟩
        · refine ⟨by omega, ?_⟩
          rcases Nat.eq_zero_or_pos d with e | e
          · have := u6z e; omega
          · exact (u7 e).2
        · by_cases e : j = i
          · subst e
            have := (u8 j hj).2 (by omega)
            show o0'.2 0 j = nI (if j = j then x else x' j) ∧ o'.2 21 j = nI (if j = j then x else x' j) ∧ (if j = j then x else x' j) < 1000
            rw [if_pos rfl, this.1, this.2, sA2, if_pos ⟨rfl, rfl⟩, m4, if_pos rfl]
            exact ⟨rfl, rfl, r3⟩
          · have := (u8 j hj).1 (by omega)
            show o0'.2 0 j = nI (if j = i then x else x' j) ∧ o'.2 21 j = nI (if j = i then x else x' j) ∧ (if j = i then x else x' j) < 1000
            rw [if_neg e]
            exact this
        · have := (u8 j hj).2 (by omega)
          rw [this.1, this.2, sA2, if_neg (by omega), m4, if_neg (by omega)]
          exact ⟨rfl, rfl⟩
theorem nums2 {T : Ob} {n : Nat} {B : Nat → Nat} {k p : Nat} (hk1 : 1 ≤ k) (hk : k ≤ 5) (hp : p < 400) (o0 o : Ob) (ht : TX T o n B) (ho : o.1 20 = nI p) :
    (∃ o0' o', f_X2_readNumbers o0 T (nI p) (nI k) = some ((-4 : Int32), o0') ∧ f_X8_figures o (nI k) = some ((0 : Int32), o') ∧ Fr o o') ∨
    (∃ (q : Nat) (x : Nat → Nat) (o0' o' : Ob), f_X2_readNumbers o0 T (nI p) (nI k) = some (nI q, o0') ∧ f_X8_figures o (nI k) = some ((1 : Int32), o') ∧ Fr o o' ∧ (∀ j, j < 21 → o'.2 j = o.2 j) ∧ o'.1 20 = nI q ∧ p < q ∧ q ≤ n ∧ ∀ j, j < k → o0'.2 0 j = nI (x j) ∧ o'.2 21 j = nI (x j) ∧ x j < 1000) := by
  unfold f_X2_readNumbers f_X8_figures
  rw [if_pos (show (1 : Int32) ≤ nI k from nI_le hk1 (by omega))]
  rcases nums_both hk k 0 p 512 512 o0 o ht (by omega) hp (by omega) (by omega) ho with ⟨z, o0', o', u1, u2, u3⟩ | ⟨q, x, o0', o', u1, u2, u3, u4, u5, u6, u6z, u7, u8⟩
  · left
    have u1 : L_X2_readNumbers_14 (nI k) T 512 (nI p) (0 : Int32) o0 = some (0, z, o0') := u1
    have u2 : L_X8_figures_2 (nI k) 512 (0 : Int32) o = some (0, o') := u2
    exact ⟨o0', o', by rw [u1]; rfl, by rw [u2]; rfl, u3⟩
  · right
    have u1 : L_X2_readNumbers_14 (nI k) T 512 (nI p) (0 : Int32) o0 = some (1, nI q, o0') := u1
    have u2 : L_X8_figures_2 (nI k) 512 (0 : Int32) o = some (1, o') := u2
    exact ⟨q, x, o0', o', by rw [u1]; rfl, by rw [u2]; rfl, u3, u4, u5, (u7 hk1).1, (u7 hk1).2, fun j hj => (u8 j hj).1 (by omega)⟩
def vP (v : TV) (x : Nat) : TV := (fun i => if i = 0 then v.1 0 + 1 else if i = 1 then v.1 1 ||| x * 2 ^ v.1 0 else v.1 i, v.2)
def vL (v : TV) (x : Nat) : TV := (fun i => if i = 2 then x else v.1 i, v.2)
theorem vP_ok {v : TV} (hv : TOK v) {x : Nat} (hx : x ≤ 1) (h6 : v.1 0 < 6) : TOK (vP v x) := by
  obtain ⟨h0, h1, h2, h3, h4, h5, h7⟩ := hv
  refine ⟨(by show v.1 0 + 1 ≤ 6; omega), ?_, h2, h3, h4, h5, fun j hj => ?_⟩
  · show v.1 1 ||| x * 2 ^ v.1 0 < 2 ^ (v.1 0 + 1)
    have hp : 0 < 2 ^ v.1 0 := Nat.two_pow_pos _
    refine Nat.or_lt_two_pow (Nat.lt_of_lt_of_le h1 (Nat.pow_le_pow_right (n := 2) (by omega) (by omega))) ?_
    rw [Nat.pow_succ]
    have : x = 0 ∨ x = 1 := by omega
    rcases this with rfl | rfl <;> omega
  · have := h7 j hj
    show v.2 0 j < v.1 0 + 1 ∧ v.2 1 j < v.1 0 + 1 ∧ _
    exact ⟨by omega, by omega, this.2.2⟩
theorem vL_ok {v : TV} (hv : TOK v) {x : Nat} (hx : x ≤ 2) : TOK (vL v x) := by
  obtain ⟨h0, h1, h2, h3, h4, h5, h7⟩ := hv
  exact ⟨h0, h1, hx, h3, h4, h5, h7⟩
theorem addPerson_c {T : Ob} {v : TV} (hT : TC T v) (hv : TOK v) {x : Nat} (hx : x < 1000) : (x ≤ 1 ∧ v.1 0 < 6 → ∃ T', f_X6_addPerson T (nI x) = some ((1 : Int32), T') ∧ TC T' (vP v x)) ∧ (¬ (x ≤ 1 ∧ v.1 0 < 6) → f_X6_addPerson T (nI x) = some ((0 : Int32), T)) := by
  have h6 := hv.1
  obtain ⟨c0, c1, c2, c3, c4, c5, c6⟩ := hT
  have hp : 2 ^ v.1 0 ≤ 2 ^ 6 := Nat.pow_le_pow_right (n := 2) (by omega) h6
  have hm : x * 2 ^ v.1 0 ≤ 1000 * 64 := Nat.mul_le_mul (by omega) hp
  unfold f_X6_addPerson
  rw [if_neg (show ¬ nI x < (0 : Int32) from fun e => absurd e (nI_pos (by omega))), c0, c1]
  refine ⟨fun ⟨h1, h2⟩ => ?_, fun h => ?_⟩
  · rw [if_neg (by rw [l_1, nI_ltI (by omega) (by omega)]; omega), if_pos (by rw [l_6, nI_ltI (by omega) (by omega)]; omega), sh_nI (by omega) (by omega), nI_or]
    refine ⟨sF (sF T 7 (nI (v.1 1 ||| x * 2 ^ v.1 0))) 6 (nI (v.1 0 + 1)), ?_, ?_, ?_, c2, c3, c4, c5, c6⟩
    · simp only [nm_s, sF1, Nat.reduceEqDiff, ↓reduceIte, c0, l_1, nI_add]
    · rfl
    · rfl
  · by_cases q : 1 < x
    · rw [if_pos (by rw [l_1, nI_ltI (by omega) (by omega)]; omega)]
    · rw [if_neg (by rw [l_1, nI_ltI (by omega) (by omega)]; omega), if_neg (by rw [l_6, nI_ltI (by omega) (by omega)]; omega)]
theorem setLaw_c {T : Ob} {v : TV} (hT : TC T v) {x : Nat} (hx : x < 1000) : (x ≤ 2 → ∃ T', f_X6_setLaw T (nI x) = some ((1 : Int32), T') ∧ TC T' (vL v x)) ∧ (¬ x ≤ 2 → f_X6_setLaw T (nI x) = some ((0 : Int32), T)) := by
  obtain ⟨c0, c1, c2, c3, c4, c5, c6⟩ := hT
  unfold f_X6_setLaw
  rw [if_neg (show ¬ nI x < (0 : Int32) from fun e => absurd e (nI_pos (by omega)))]
  refine ⟨fun h1 => ?_, fun h => ?_⟩
  · rw [if_pos (show nI x ≤ (2 : Int32) from nI_le (b := 2) h1 (by omega))]
    exact ⟨sF T 8 (nI x), rfl, c0, c1, rfl, c3, c4, c5, c6⟩
  · rw [if_neg (by rw [l_2, nI_leI (by omega) (by omega)]; omega)]
