/-! ===== never fewer knots than were laid (own text) ===== -/
def gT (n : Nat) (T : Ob) : Prop := nI n ≤ T.1 9
def gP (n : Nat) (T : Ob) : Prop := ∀ i p : Nat, T.1 3 = nI p → p ≤ 8 → i < p → nI n ≤ T.2 0 i
def gK (n : Nat) (C A B : Ob) : Prop := ∀ q : Nat, C.1 6 = nI q → q ≤ 2 → (1 ≤ q → gT n A) ∧ (2 ≤ q → gT n B)
def G (n : Nat) (X : Nat → Ob) : Prop := gT n (X 2) ∧ gP n (X 7) ∧ gK n (X 6) (X 4) (X 5)
def SZ (X : Nat → Ob) : Prop := (∃ k, k ≤ 8 ∧ (X 2).1 9 = nI k) ∧ (∃ p, p ≤ 8 ∧ (X 7).1 3 = nI p) ∧ ∃ q, q ≤ 2 ∧ (X 6).1 6 = nI q
theorem RX.sz {X : Nat → Ob} (h : RX X) : SZ X := by
  obtain ⟨o, v, ⟨t1, t2, t3, t4⟩, -, -, -, -, ⟨pn, K, S, D, hp⟩, ⟨kn, U, hk⟩⟩ := h
  exact ⟨⟨v.1 3, t3.2.2.2.1, t1.2.2.2.1⟩, ⟨pn, hp.1, hp.2.1⟩, ⟨kn, hk.1, hk.2.1⟩⟩
theorem note_1 {T U : Ob} {p : Nat} (h : T.1 3 = nI p) (hp : p < 8) : J_X1_note_13 T U = some (sF (sA (sA (sA T 0 p (U.1 9)) 1 p (U.1 10)) 2 p (U.1 11)) 3 (nI (p + 1))) := by
  unfold J_X1_note_13
  have e1 : (sA T 0 p (U.1 9)).1 3 = nI p := h
  have e2 : (sA (sA T 0 p (U.1 9)) 1 p (U.1 10)).1 3 = nI p := h
  have e3 : (sA (sA (sA T 0 p (U.1 9)) 1 p (U.1 10)) 2 p (U.1 11)).1 3 = nI p := h
  have hk : ck (nI p) 8 = true := by rw [ck_nI (by omega), decide_eq_true hp]
  rw [h, hk, cl_nI (by omega), gd_t, nm_s, e1, hk, cl_nI (by omega), gd_t, nm_s, e2, hk, cl_nI (by omega), gd_t, nm_s, e3, nm_s]
  show some (sF _ 3 (nI p + nI 1)) = _
  rw [nI_add]
theorem note_g1 {n p : Nat} {T U : Ob} (h : T.1 3 = nI p) (hp : p < 8) (g : gP n T) (u : gT n U) : gP n (sF (sA (sA (sA T 0 p (U.1 9)) 1 p (U.1 10)) 2 p (U.1 11)) 3 (nI (p + 1))) := by
  intro i q hq hq8 hi
  have hq : nI (p + 1) = nI q := hq
  have hq := (nI_eq (by omega) (by omega)).mp hq
  rw [sF2, sA2, if_neg (by omega), sA2, if_neg (by omega), sA2]
  by_cases e : i = p
  · rw [if_pos ⟨rfl, e⟩]
    exact u
  · rw [if_neg (fun c => e c.2)]
    exact g i p h (by omega) (by omega)
theorem note_g {n p : Nat} {T U T' : Ob} (h : T.1 3 = nI p) (hp : p ≤ 8) (g : gP n T) (u : gT n U) (hn : f_X1_note T U = some T') : gP n T' := by
  unfold f_X1_note at hn
  rw [h] at hn
  by_cases q : p < 8
  · rw [if_pos (show nI p < (8 : Int32) from nI_lt (b := 8) q (by omega)), note_1 h q] at hn
    cases hn
    exact note_g1 h q g u
  · rw [if_neg (show ¬ nI p < (8 : Int32) from nI_nlt (b := 8) (a := p) (by omega) (by omega))] at hn
    obtain ⟨T1, s1, s2, s3⟩ := shift_c T
    rw [s1, bd_s, note_1 s2 (by omega)] at hn
    cases hn
    refine note_g1 s2 (by omega) (fun i r hr hr8 hi => ?_) u
    rw [s2] at hr
    have hr := (nI_eq (by omega) (by omega)).mp hr
    rw [s3 0 (by omega) i (by omega)]
    exact g (i + 1) p h hp (by omega)
theorem restore_g {n p : Nat} {T U T' U' : Ob} (h : T.1 3 = nI p) (hp : p ≤ 8) (h1 : 1 ≤ p) (g : gP n T) (hr : f_X1_restore T U = some (T', U')) : gP n T' ∧ gT n U' := by
  unfold f_X1_restore at hr
  have e : (sF T 3 ((T.1 3) - (1 : Int32))).1 3 = nI (p - 1) := by
    show T.1 3 - (1 : Int32) = _
    rw [h]
    exact pk_sub h1
  rw [if_pos (show (1 : Int32) ≤ T.1 3 by rw [h]; exact nI_le (a := 1) h1 (by omega)), nm_s, e, ck_nI (by omega), decide_eq_true (show p - 1 < 8 by omega), gd_t, cl_nI (by omega), nm_s, nm_s, nm_s] at hr
  cases hr
  refine ⟨fun i q hq hq8 hi => ?_, ?_⟩
  · rw [e] at hq
    have hq := (nI_eq (by omega) (by omega)).mp hq
    exact g i p h hp (by omega)
  · exact g (p - 1) p h hp (by omega)
theorem copy_9 {T U T' : Ob} (h : f_X6_copy T U = some T') : T'.1 9 = U.1 9 := by
  unfold f_X6_copy at h
  obtain ⟨z, -, h⟩ := bd_some h
  simp only [nm_s] at h
  cases h
  rfl
theorem copy_g {n : Nat} {T U T' : Ob} (h : f_X6_copy T U = some T') (g : gT n U) : gT n T' := by
  unfold gT
  rw [copy_9 h]
  exact g
theorem addKnot_g {n k : Nat} {T T' : Ob} {x1 x2 x3 x4 x5 r : Int32} (h : T.1 9 = nI k) (hk : k ≤ 8) (hn : n < 1000) (g : gT n T) (ha : f_X6_addKnot T x1 x2 x3 x4 x5 = some (r, T')) : gT n T' := by
  unfold f_X6_addKnot at ha
  by_cases q : (8 : Int32) ≤ T.1 9
  · rw [if_pos q] at ha
    cases ha
    exact g
  · rw [if_neg q] at ha
    obtain ⟨z1, -, ha⟩ := bd_some ha
    by_cases q1 : z1 = (0 : Int32)
    · rw [if_pos q1] at ha
      cases ha
      exact g
    · rw [if_neg q1] at ha
      simp only [nm_s] at ha
      obtain ⟨-, ha⟩ := gd_some ha
      obtain ⟨-, ha⟩ := gd_some ha
      obtain ⟨z6, -, ha⟩ := bd_some ha
      obtain ⟨z7, -, ha⟩ := bd_some ha
      obtain ⟨-, ha⟩ := gd_some ha
      obtain ⟨-, ha⟩ := gd_some ha
      obtain ⟨-, ha⟩ := gd_some ha
      obtain ⟨-, ha⟩ := gd_some ha
      obtain ⟨z16, -, ha⟩ := bd_some ha
      cases ha
      show nI n ≤ T.1 9 + (1 : Int32)
      have g : nI n ≤ T.1 9 := g
      rw [h] at g ⊢
      rw [show nI k + (1 : Int32) = nI (k + 1) from nI_add k 1]
      have := (nI_leI (by omega) (by omega)).mp g
      exact nI_le (by omega) (by omega)
theorem removed_g {n : Nat} {X X' : Nat → Ob} {x r : Int32} (hs : SZ X) (g : G n X) (h : f_X7_removeTied X x = some (r, X')) : G n X' := by
  obtain ⟨p, hp, e⟩ := hs.2.1
  unfold f_X7_removeTied at h
  obtain ⟨z1, h1, h⟩ := bd_some h
  simp only [nm_s] at h
  obtain ⟨z4, h4, h⟩ := bd_some h
  cases h
  exact ⟨g.1, note_g e hp g.2.1 g.1 h1, g.2.2⟩
theorem undo_g {n : Nat} {X X' : Nat → Ob} {x r : Int32} (hs : SZ X) (g : G n X) (h : f_X7_undo X x = some (r, X')) : G n X' := by
  unfold f_X7_undo at h
  obtain ⟨z1, -, h⟩ := bd_some h
  by_cases q1 : z1 = (0 : Int32)
  · rw [if_pos q1] at h
    cases h
    exact g
  · rw [if_neg q1] at h
    obtain ⟨z2, -, h⟩ := bd_some h
    by_cases q2 : z2 = (0 : Int32)
    · rw [if_pos q2] at h
      cases h
      exact g
    · rw [if_neg q2] at h
      obtain ⟨z3, -, h⟩ := bd_some h
      obtain ⟨⟨z4, X4⟩, h4, h⟩ := bd_some h
      obtain ⟨z5, -, h⟩ := bd_some h
      cases h
      exact removed_g hs g h4
theorem cut_g {n : Nat} {X X' : Nat → Ob} {x r : Int32} (hs : SZ X) (g : G n X) (h : f_X7_cut X x = some (r, X')) : G n X' := by
  unfold f_X7_cut at h
  obtain ⟨z1, -, h⟩ := bd_some h
  by_cases q1 : z1 = (0 : Int32)
  · rw [if_pos q1] at h
    cases h
    exact g
  · rw [if_neg q1] at h
    obtain ⟨z2, -, h⟩ := bd_some h
    by_cases q2 : z2 = (0 : Int32)
    · rw [if_pos q2] at h
      cases h
      exact g
    · rw [if_neg q2] at h
      obtain ⟨z3, -, h⟩ := bd_some h
      obtain ⟨z4, -, h⟩ := bd_some h
      obtain ⟨⟨z5, X5⟩, h5, h⟩ := bd_some h
      cases h
      exact removed_g hs g h5
theorem pull_g {n : Nat} {X X' : Nat → Ob} {x r : Int32} (hs : SZ X) (g : G n X) (h : f_X7_pull X x = some (r, X')) : G n X' := by
  unfold f_X7_pull at h
  obtain ⟨z1, -, h⟩ := bd_some h
  by_cases q1 : z1 = (0 : Int32)
  · rw [if_pos q1] at h
    cases h
    exact g
  · rw [if_neg q1] at h
    simp only [nm_s] at h
    obtain ⟨z2, -, h⟩ := bd_some h
    obtain ⟨z3, -, h⟩ := bd_some h
    obtain ⟨z5, -, h⟩ := bd_some h
    by_cases q2 : z5 = (0 : Int32)
    · rw [if_pos q2] at h
      cases h
      exact g
    · rw [if_neg q2] at h
      obtain ⟨z6, -, h⟩ := bd_some h
      obtain ⟨z7, -, h⟩ := bd_some h
      by_cases q3 : z7 = (0 : Int32)
      · rw [if_pos q3] at h
        cases h
        exact g
      · rw [if_neg q3] at h
        obtain ⟨⟨z8, X8⟩, h8, h⟩ := bd_some h
        cases h
        exact removed_g hs g h8
theorem days_g {n : Nat} {X X' : Nat → Ob} {x r : Int32} (hs : SZ X) (g : G n X) (h : f_X7_days X x = some (r, X')) : G n X' := by
  obtain ⟨p, hp, e⟩ := hs.2.1
  unfold f_X7_days at h
  by_cases q1 : x < (1 : Int32)
  · rw [if_pos q1] at h
    cases h
    exact g
  · rw [if_neg q1] at h
    by_cases q2 : x ≤ (99 : Int32)
    · rw [if_pos q2] at h
      by_cases q3 : ((X 2).1 11) + x ≤ (99 : Int32)
      · rw [if_pos q3] at h
        obtain ⟨z1, h1, h⟩ := bd_some h
        simp only [nm_s] at h
        cases h
        exact ⟨g.1, note_g e hp g.2.1 g.1 h1, g.2.2⟩
      · rw [if_neg q3] at h
        cases h
        exact g
    · rw [if_neg q2] at h
      cases h
      exact g
theorem tie_g {n : Nat} {X X' : Nat → Ob} {x1 x2 x3 x4 x5 r : Int32} (hs : SZ X) (hn : n < 1000) (g : G n X) (h : f_X7_tie X x1 x2 x3 x4 x5 = some (r, X')) : G n X' := by
  obtain ⟨k, hk, ek⟩ := hs.1
  obtain ⟨p, hp, e⟩ := hs.2.1
  unfold f_X7_tie at h
  obtain ⟨z1, -, h⟩ := bd_some h
  by_cases q1 : z1 = (0 : Int32)
  · rw [if_pos q1] at h
    cases h
    exact g
  · rw [if_neg q1] at h
    obtain ⟨z2, -, h⟩ := bd_some h
    obtain ⟨z3, -, h⟩ := bd_some h
    obtain ⟨z4, -, h⟩ := bd_some h
    by_cases q4 : z4 = (0 : Int32)
    · rw [if_pos q4] at h
      cases h
      exact g
    · rw [if_neg q4] at h
      obtain ⟨z5, -, h⟩ := bd_some h
      by_cases q5 : z5 = (0 : Int32)
      · rw [if_pos q5] at h
        cases h
        exact g
      · rw [if_neg q5] at h
        by_cases q6 : (X 2).1 9 < (8 : Int32)
        · rw [if_pos q6] at h
          obtain ⟨z6, h6, h⟩ := bd_some h
          simp only [nm_s] at h
          obtain ⟨z8, h8, h⟩ := bd_some h
          obtain ⟨⟨z10, T10⟩, h10, h⟩ := bd_some h
          have h10 : f_X6_addKnot (X 2) x1 x2 x3 x4 x5 = some (z10, T10) := h10
          cases h
          exact ⟨addKnot_g ek hk hn g.1 h10, note_g e hp g.2.1 g.1 h6, g.2.2⟩
        · rw [if_neg q6] at h
          cases h
          exact g
theorem takeBack_g {n : Nat} {X X' : Nat → Ob} {r : Int32} (hs : SZ X) (g : G n X) (h : f_X7_takeBack X = some (r, X')) : G n X' := by
  obtain ⟨p, hp, e⟩ := hs.2.1
  unfold f_X7_takeBack at h
  obtain ⟨z1, h1, h⟩ := bd_some h
  have h1 : some ((X 7).1 3) = some z1 := h1
  rw [e] at h1
  by_cases q1 : z1 = (0 : Int32)
  · rw [if_pos q1] at h
    cases h
    exact g
  · rw [if_neg q1] at h
    obtain ⟨⟨T2, U2⟩, h2, h⟩ := bd_some h
    simp only [nm_s] at h
    obtain ⟨z4, h4, h⟩ := bd_some h
    obtain ⟨z6, h6, h⟩ := bd_some h
    cases h
    have hp1 : 1 ≤ p := by
      rcases Nat.eq_zero_or_pos p with c | c
      · subst c
        cases h1
        exact absurd rfl q1
      · exact c
    obtain ⟨g1, g2⟩ := restore_g e hp hp1 g.2.1 h2
    exact ⟨g2, g1, g.2.2⟩
theorem keep_g {n : Nat} {X X' : Nat → Ob} {r : Int32} (hs : SZ X) (g : G n X) (h : f_X7_keep X = some (r, X')) : G n X' := by
  obtain ⟨q, hq, e⟩ := hs.2.2
  unfold f_X7_keep f_X7_keptAt at h
  rw [e] at h
  have hc : q = 0 ∨ q = 1 ∨ q = 2 := by omega
  rcases hc with rfl | rfl | rfl
  · rw [if_pos (show nI 0 < (2 : Int32) by decide), if_pos (show nI 0 = (0 : Int32) from rfl), bd_s, if_pos rfl] at h
    obtain ⟨z3, h3, h⟩ := bd_some h
    simp only [nm_s] at h
    cases h
    refine ⟨g.1, g.2.1, fun q hq2 hq3 => ⟨fun _ => copy_g h3 g.1, fun h2 => ?_⟩⟩
    have hq2 : (X 6).1 6 + (1 : Int32) = nI q := hq2
    rw [e] at hq2
    have hq2 := (nI_eq (a := 0 + 1) (by omega) (by omega)).mp ((nI_add 0 1).symm.trans hq2)
    omega
  · rw [if_pos (show nI 1 < (2 : Int32) by decide), if_neg (show ¬ nI 1 = (0 : Int32) by decide), bd_s, if_neg (show ¬ 5 = 4 by omega), if_pos rfl] at h
    obtain ⟨z3, h3, h⟩ := bd_some h
    simp only [nm_s] at h
    cases h
    exact ⟨g.1, g.2.1, fun q hq2 hq3 => ⟨fun _ => (g.2.2 1 e (by omega)).1 (by omega), fun _ => copy_g h3 g.1⟩⟩
  · rw [if_neg (show ¬ nI 2 < (2 : Int32) by decide)] at h
    cases h
    exact g
theorem back_g {n : Nat} {X X' : Nat → Ob} {r : Int32} (hs : SZ X) (g : G n X) (h : f_X7_back X = some (r, X')) : G n X' := by
  obtain ⟨q, hq, e⟩ := hs.2.2
  have eP : ∀ T : Ob, gP n (sF T 3 (0 : Int32)) := fun T i p hp hp8 hi => by
    have hp : nI 0 = nI p := hp
    have hp := (nI_eq (by omega) (by omega)).mp hp
    omega
  unfold f_X7_back f_X7_keptAt f_X1_empty f_X4_empty at h
  rw [e] at h
  simp only [nm_s] at h
  have hc : q = 0 ∨ q = 1 ∨ q = 2 := by omega
  rcases hc with rfl | rfl | rfl
  · rw [if_neg (show ¬ (1 : Int32) ≤ nI 0 by decide)] at h
    cases h
    exact g
  · rw [if_pos (show (1 : Int32) ≤ nI 1 by decide), if_pos (show (sX X 6 (sF (X 6) 6 (nI 1 - (1 : Int32))) 6).1 6 = (0 : Int32) by show nI 1 - (1 : Int32) = 0; decide), bd_s, if_pos rfl] at h
    obtain ⟨z3, h3, h⟩ := bd_some h
    simp only [bd_s] at h
    cases h
    refine ⟨copy_g h3 ((g.2.2 1 e (by omega)).1 (by omega)), eP _, fun q hq2 hq3 => ?_⟩
    have hq2 : nI 1 - (1 : Int32) = nI q := hq2
    have hq2 := (nI_eq (a := 1 - 1) (by omega) (by omega)).mp ((pk_sub (a := 1) (b := 1) (by omega)).symm.trans hq2)
    exact ⟨fun c => by omega, fun c => by omega⟩
  · rw [if_pos (show (1 : Int32) ≤ nI 2 by decide), if_neg (show ¬ (sX X 6 (sF (X 6) 6 (nI 2 - (1 : Int32))) 6).1 6 = (0 : Int32) by show ¬ nI 2 - (1 : Int32) = 0; decide), bd_s, if_neg (show ¬ 5 = 4 by omega), if_pos rfl] at h
    obtain ⟨z3, h3, h⟩ := bd_some h
    simp only [bd_s] at h
    cases h
    refine ⟨copy_g h3 ((g.2.2 2 e (by omega)).2 (by omega)), eP _, fun q hq2 hq3 => ?_⟩
    have hq2 : nI 2 - (1 : Int32) = nI q := hq2
    have hq2 := (nI_eq (a := 2 - 1) (by omega) (by omega)).mp ((pk_sub (a := 2) (b := 1) (by omega)).symm.trans hq2)
    exact ⟨fun _ => (g.2.2 2 e (by omega)).1 (by omega), fun c => by omega⟩
theorem orders_g {n : Nat} {X X' : Nat → Ob} {r : Int32} (g : G n X) (h : f_X7_orders X = some (r, X')) : G n X' := by
  unfold f_X7_orders at h
  obtain ⟨z1, -, h⟩ := bd_some h
  simp only [nm_s] at h
  cases h
  exact g
theorem tell_g {n : Nat} {X X' : Nat → Ob} {x r : Int32} (g : G n X) (h : f_X7_tell X x = some (r, X')) : G n X' := by
  unfold f_X7_tell at h
  obtain ⟨z1, -, h⟩ := bd_some h
  by_cases q1 : z1 = (0 : Int32)
  · rw [if_pos q1] at h
    cases h
    exact g
  · rw [if_neg q1] at h
    obtain ⟨z2, -, h⟩ := bd_some h
    by_cases q2 : z2 = (0 : Int32)
    · rw [if_pos q2] at h
      obtain ⟨z3, -, h⟩ := bd_some h
      simp only [nm_s] at h
      obtain ⟨z5, -, h⟩ := bd_some h
      cases h
      exact g
    · rw [if_neg q2] at h
      cases h
      exact g
theorem noRow_g {n : Nat} {X X' : Nat → Ob} {r : Int32} (g : G n X) (h : f_X7_noRow X = some (r, X')) : G n X' := by
  unfold f_X7_noRow at h
  obtain ⟨z1, -, h⟩ := bd_some h
  obtain ⟨z2, -, h⟩ := bd_some h
  simp only [nm_s] at h
  cases h
  exact g
theorem smooth_g {n : Nat} {X X' : Nat → Ob} {x r : Int32} (g : G n X) (h : f_X7_smooth X x = some (r, X')) : G n X' := by
  unfold f_X7_smooth at h
  obtain ⟨z1, -, h⟩ := bd_some h
  by_cases q1 : z1 = (0 : Int32)
  · rw [if_pos q1] at h
    cases h
    exact g
  · rw [if_neg q1] at h
    obtain ⟨z2, -, h⟩ := bd_some h
    simp only [nm_s] at h
    by_cases q2 : z2 = 10
    · rw [if_pos q2] at h
      obtain ⟨z3, -, h⟩ := bd_some h
      obtain ⟨z4, -, h⟩ := bd_some h
      cases h
      exact g
    · rw [if_neg q2] at h
      by_cases q3 : z2 = 11
      · rw [if_pos q3] at h
        obtain ⟨z3, -, h⟩ := bd_some h
        obtain ⟨z4, -, h⟩ := bd_some h
        cases h
        exact g
      · rw [if_neg q3] at h
        cases h
theorem cross_g {n : Nat} {X X' : Nat → Ob} {x y r : Int32} (g : G n X) (h : f_X7_cross X x y = some (r, X')) : G n X' := by
  unfold f_X7_cross at h
  obtain ⟨z1, -, h⟩ := bd_some h
  simp only [nm_s] at h
  by_cases q1 : z1 = (0 : Int32)
  · rw [if_pos q1] at h
    cases h
    exact g
  · rw [if_neg q1] at h
    by_cases p1 : y < (0 : Int32)
    · rw [if_pos p1] at h
      cases h
      exact g
    · rw [if_neg p1] at h
      by_cases p2 : y < (8 : Int32)
      · rw [if_pos p2] at h
        obtain ⟨z2, -, h⟩ := bd_some h
        by_cases q2 : z2 = 10
        · rw [if_pos q2] at h
          obtain ⟨z3, -, h⟩ := bd_some h
          by_cases p3 : z3 < (16 : Int32)
          · rw [if_pos p3] at h
            obtain ⟨z4, -, h⟩ := bd_some h
            obtain ⟨z5, -, h⟩ := bd_some h
            cases h
            exact g
          · rw [if_neg p3] at h
            cases h
            exact g
        · rw [if_neg q2] at h
          by_cases q3 : z2 = 11
          · rw [if_pos q3] at h
            obtain ⟨z3, -, h⟩ := bd_some h
            by_cases p3 : z3 < (16 : Int32)
            · rw [if_pos p3] at h
              obtain ⟨z4, -, h⟩ := bd_some h
              obtain ⟨z5, -, h⟩ := bd_some h
              cases h
              exact g
            · rw [if_neg p3] at h
              cases h
              exact g
          · rw [if_neg q3] at h
            cases h
      · rw [if_neg p2] at h
        cases h
        exact g
