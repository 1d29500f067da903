/-! ===== the law's loops (own text) ===== -/
theorem cmp_rf (x : Int64) : lg_cmp x x = (0 : Int32) := by
  unfold lg_cmp
  rw [if_neg (fun h => absurd (Int64.lt_iff_toInt_lt.mp h) (Int.lt_irrefl _)), if_pos rfl]
theorem nine {sL : Nat} {sxs : Nat → Int32} {x5 : Int32} {X : Nat → Ob} {B1 B2 : Nat → Int32} (h : RX X) : ∀ (d i f : Nat), i + d = 9 → d < f → L_L_law_372 sL sxs x5 X X B1 B2 f (1 : Int32) (nI i) = some (1 : Int32) := by
  intro d
  induction d with
  | zero =>
    intro i f hi hf
    obtain ⟨f, rfl⟩ : ∃ k, f = k + 1 := ⟨f - 1, by omega⟩
    have : i = 9 := by omega
    subst this
    show L_L_law_372_step sL sxs x5 X X B1 B2 (L_L_law_372 sL sxs x5 X X B1 B2 f) (1 : Int32) (nI 9) = _
    unfold L_L_law_372_step
    rw [if_pos (by decide)]
  | succ d ih =>
    intro i f hi hf
    obtain ⟨f, rfl⟩ : ∃ k, f = k + 1 := ⟨f - 1, by omega⟩
    obtain ⟨c, hc, e⟩ := cnt9 h (i := i) (by omega)
    show L_L_law_372_step sL sxs x5 X X B1 B2 (L_L_law_372 sL sxs x5 X X B1 B2 f) (1 : Int32) (nI i) = _
    unfold L_L_law_372_step
    rw [if_neg (show ¬ (9 : Int32) ≤ nI i from nI_ge (b := 9) (a := i) (by omega) (by omega)), if_neg (show ¬ (1 : Int32) = (0 : Int32) by decide), e, bd_s, bd_s, if_pos rfl, bd_s, if_neg (show ¬ nI c < (0 : Int32) from nI_pos (by omega)), nm_s, adp1]
    exact ih (i + 1) f (by omega) (by omega)
theorem each {sL : Nat} {sxs : Nat → Int32} {x5 : Int32} {X : Nat → Ob} {B1 B2 : Nat → Int32} (h : RX X) {k : Nat} (hk : (X 2).1 9 = nI k) (hk8 : k ≤ 8) (hc : f_X7_count X (1 : Int32) = some (nI k)) : ∀ (d i f : Nat), i + d = k → d < f → L_L_law_424 sL sxs x5 X X B1 B2 f (1 : Int32) (nI i) = some (1 : Int32) := by
  intro d
  induction d with
  | zero =>
    intro i f hi hf
    obtain ⟨f, rfl⟩ : ∃ k, f = k + 1 := ⟨f - 1, by omega⟩
    show L_L_law_424_step sL sxs x5 X X B1 B2 (L_L_law_424 sL sxs x5 X X B1 B2 f) (1 : Int32) (nI i) = _
    unfold L_L_law_424_step
    rw [hc, bd_s, if_pos (nI_le (show k ≤ i by omega) (by omega))]
  | succ d ih =>
    intro i f hi hf
    obtain ⟨f, rfl⟩ : ∃ k, f = k + 1 := ⟨f - 1, by omega⟩
    obtain ⟨z5, e5⟩ := rd_knot h (nI i) (5 : Int32)
    obtain ⟨z6, e6⟩ := rd_knot h (nI i) (6 : Int32)
    obtain ⟨m, em⟩ := rd_may h (nI i)
    show L_L_law_424_step sL sxs x5 X X B1 B2 (L_L_law_424 sL sxs x5 X X B1 B2 f) (1 : Int32) (nI i) = _
    unfold L_L_law_424_step
    rw [hc, bd_s, if_neg (nI_ge (show i < k by omega) (by omega)), if_neg (show ¬ (1 : Int32) = (0 : Int32) by decide), e5, bd_s, bd_s, if_pos rfl, e6, bd_s, bd_s, if_pos rfl, em, bd_s, bd_s, if_pos rfl, bd_s, bd_s, if_neg (may_le h hk hk8 (show i < k by omega) em e5), nm_s, adp1]
    exact ih (i + 1) f (by omega) (by omega)
theorem told_ok {sL : Nat} {sxs : Nat → Int32} {X : Nat → Ob} {B1 B2 : Nat → Int32} {b3 : Nat} (h : Iv b3 X) (hb3 : B1 3 = nI b3) (self : Int32 → (Nat → Ob) → (Nat → Ob) → Option (Nat × (Nat → Ob) × (Nat → Ob))) (t : Nat) : J_L_law_367l53 sL sxs self (1 : Int32) (nI t) X X B1 B2 = self (nI (t + 1)) X X := by
  obtain ⟨hn, hR, g⟩ := h
  obtain ⟨a, k, t', d, r, p, q, m, l, c0, c1, c2, c3, c4, c5, c6, c7, c8, e9, l0, l1, l2, l3, l4, l5, l6, l7, l8⟩ := cnts hR
  have c1 : f_X7_count X (1 : Int32) = some (nI k) := c1
  have c2 : f_X7_count X (2 : Int32) = some (nI t') := c2
  have c3 : f_X7_count X (3 : Int32) = some (nI d) := c3
  have c5 : f_X7_count X (5 : Int32) = some (nI p) := c5
  have c6 : f_X7_count X (6 : Int32) = some (nI q) := c6
  have e1 : L_L_law_372 sL sxs (nI t) X X B1 B2 512 (1 : Int32) (0 : Int32) = some (1 : Int32) := nine hR 9 0 512 (by omega) (by omega)
  have e2 : L_L_law_424 sL sxs (nI t) X X B1 B2 512 (1 : Int32) (0 : Int32) = some (1 : Int32) := each hR e9 l1 c1 k 0 512 (by omega) (by omega)
  have hg : nI b3 ≤ nI k := by rw [← e9]; exact g.1
  have hg := (nI_leI (by omega) (by omega)).mp hg
  unfold J_L_law_367l53
  rw [e1, bd_s, e2, bd_s, if_neg (show ¬ (1 : Int32) = (0 : Int32) by decide), c1, bd_s, hb3, if_neg (nI_nlt hg (by omega)), bd_s, if_neg (show ¬ (8 : Int32) < nI k from nI_nlt (b := k) (a := 8) l1 (by omega)), c2, bd_s, bd_s, if_neg (nI_nlt l2 (by omega)), c3, bd_s, if_neg (show ¬ (99 : Int32) < nI d from nI_nlt (b := d) (a := 99) l3 (by omega)), c5, bd_s, if_neg (show ¬ (8 : Int32) < nI p from nI_nlt (b := p) (a := 8) l5 (by omega)), c6, bd_s, if_pos (show nI q ≤ (2 : Int32) from nI_le (b := 2) l6 (by omega)), nm_s, adp1]
set_option maxHeartbeats 4000000 in
theorem forty {sL : Nat} (hL : sL ≤ 260) (sxs : Nat → Int32) {B1 B2 : Nat → Int32} {b0 b3 : Nat} (hb0 : B1 0 = nI b0) (hb3 : B1 3 = nI b3) (h2 : 2 ≤ b0) (h5 : b0 ≤ 5) (h1 : 1 ≤ b3) (h6 : b3 ≤ 6) : ∀ (d t f : Nat) (X : Nat → Ob), t + d = 40 → d < f → Iv b3 X → ∃ X', L_L_law_53 sL sxs B1 B2 f (nI t) X X = some (2, X', X') := by
  intro d
  induction d with
  | zero =>
    intro t f X ht hf h
    obtain ⟨f, rfl⟩ : ∃ k, f = k + 1 := ⟨f - 1, by omega⟩
    have : t = 40 := by omega
    subst this
    refine ⟨X, ?_⟩
    show L_L_law_53_step sL sxs B1 B2 (L_L_law_53 sL sxs B1 B2 f) (nI 40) X X = _
    unfold L_L_law_53_step
    rw [if_pos (by decide)]
  | succ d ih =>
    intro t f X ht hf h
    obtain ⟨f, rfl⟩ : ∃ k, f = k + 1 := ⟨f - 1, by omega⟩
    have hR := h.2.1
    obtain ⟨x, ex⟩ := cell_ok hL sxs (k := 9 + 2 * t) (by omega)
    obtain ⟨y, ey⟩ := cell_ok hL sxs (k := 10 + 2 * t) (by omega)
    have mul2 : (2 : Int32) * nI t = nI (2 * t) := (Int32.ofNat_mul 2 t).symm
    have e9 : (9 : Int32) + (2 : Int32) * nI t = nI (9 + 2 * t) := by rw [mul2]; exact nI_add 9 (2 * t)
    have e10 : (10 : Int32) + (2 : Int32) * nI t = nI (10 + 2 * t) := by rw [mul2]; exact nI_add 10 (2 * t)
    obtain ⟨r, X1, ea, i1⟩ := act_ok h hb0 hb3 h2 h5 h1 h6 x y
    obtain ⟨z1, f1⟩ := rd_forEver i1.2.1
    obtain ⟨z2, f2⟩ := rd_alike i1.2.1
    obtain ⟨z3, f3⟩ := rd_judge i1.2.1
    obtain ⟨X', hX'⟩ := ih (t + 1) f X1 (by omega) (by omega) i1
    refine ⟨X', ?_⟩
    have J : J_L_law_298l53 sL sxs (L_L_law_53 sL sxs B1 B2 f) (1 : Int32) (nI t) x y X X B1 B2 = some (2, X', X') := by
      unfold J_L_law_298l53
      rw [if_neg (show ¬ (1 : Int32) = (0 : Int32) by decide), ea, bd_s, bd_s, if_pos (cmp_rf r), f1, bd_s, bd_s, if_pos rfl, f2, bd_s, bd_s, if_pos rfl, f3, bd_s, bd_s, if_pos rfl, told_ok i1 hb3]
      exact hX'
    show L_L_law_53_step sL sxs B1 B2 (L_L_law_53 sL sxs B1 B2 f) (nI t) X X = _
    unfold L_L_law_53_step
    rw [if_neg (show ¬ (40 : Int32) ≤ nI t from nI_ge (b := 40) (a := t) (by omega) (by omega)), e9, e10, ex, ey]
    simp only [bd_s, n_write, n_knot hR, n_person hR, n_may hR, n_undo hR, n_tie hR, n_pull hR, n_cut, n_days, n_loosen hR, n_pay, n_frees hR, n_fresh, n_tell hR, n_cross, n_smooth, n_loose, n_mark, n_year, n_count, if_true]
    exact J
theorem law_one {sL : Nat} (hL : sL ≤ 260) (sxs : Nat → Int32) {X : Nat → Ob} (hR : RX X) (B : Nat → Int32) : ∃ X' B', f_L_law X X B B sL sxs = some ((1 : Int32), X', X', B', B') := by
  obtain ⟨X1, B1, b0, b3, w, e, h2, h5, h1, h6, hb0, hb3, r1, r2, r3, r4, r5⟩ := town_ok hL sxs hR B
  have hI : Iv b3 X1 := by
    refine ⟨by omega, r1, ?_, fun i p hp hp8 hi => ?_, fun q hq hq2 => ?_⟩
    · show nI b3 ≤ (X1 2).1 9
      rw [r2.2.2.2.1, r3]
      exact nI_le (Nat.le_refl _) (by omega)
    · rw [r4] at hp
      have := (nI_eq (by omega) (by omega)).mp hp
      omega
    · rw [r5] at hq
      have := (nI_eq (by omega) (by omega)).mp hq
      exact ⟨fun c => by omega, fun c => by omega⟩
  obtain ⟨X2, e2⟩ := forty hL sxs (B2 := B1) hb0 hb3 h2 h5 h1 h6 40 0 512 X1 (by omega) (by omega) hI
  have e2 : L_L_law_53 sL sxs B1 B1 512 (0 : Int32) X1 X1 = some (2, X2, X2) := e2
  refine ⟨X2, B1, ?_⟩
  unfold f_L_law
  rw [e, bd_s, if_neg (show ¬ (1 : Int32) = (0 : Int32) by decide), bd_s, if_neg (show ¬ (1 : Int32) = (0 : Int32) by decide)]
  show bd (L_L_law_53 sL sxs B1 B1 512 (0 : Int32) X1 X1) _ = _
  rw [e2, bd_s, if_neg (show ¬ 2 = 0 by omega), if_neg (show ¬ 2 = 1 by omega)]
