/-! ===== the second is refused, and is as it was (own text) ===== -/
theorem RX.tv {X : Nat → Ob} (h : RX X) : ∃ v, TC (X 2) v ∧ TOK v := by
  obtain ⟨o, v, ⟨t1, t2, t3, t4⟩, -⟩ := h
  exact ⟨v, t1, t3⟩
theorem RX.k8 {X : Nat → Ob} (h : RX X) : f_X6_isKnot (X 2) (8 : Int32) = some (0 : Int32) := by
  obtain ⟨v, hT, hv⟩ := h.tv
  have h8 := hv.2.2.2.1
  have e : inb (nI 8) (v.1 3) = false := by rw [inb_nI (by omega)]; exact decide_eq_false (by omega)
  have := isKnot_c hT hv (nI 8)
  rw [e] at this
  exact this
theorem RX.p6 {X : Nat → Ob} (h : RX X) : f_X6_isPerson (X 2) (6 : Int32) = some (0 : Int32) := by
  obtain ⟨v, hT, hv⟩ := h.tv
  have h6 := hv.1
  have e : inb (nI 6) (v.1 0) = false := by rw [inb_nI (by omega)]; exact decide_eq_false (by omega)
  have := isPerson_c hT hv (nI 6)
  rw [e] at this
  exact this
theorem n_write (X : Nat → Ob) : f_X7_write X (9 : Int32) (0 : Int64) = some ((-1 : Int32), X) := by
  unfold f_X7_write
  rw [if_neg (by decide), if_neg (by decide)]
theorem n_knot {X : Nat → Ob} (h : RX X) : f_X7_knot X (8 : Int32) (0 : Int32) = some (-1 : Int32) := by
  unfold f_X7_knot
  rw [h.k8, bd_s, if_pos rfl]
theorem n_person {X : Nat → Ob} (h : RX X) : f_X7_person X (6 : Int32) (0 : Int32) = some (-1 : Int32) := by
  unfold f_X7_person
  rw [h.p6, bd_s, if_pos rfl]
theorem n_may {X : Nat → Ob} (h : RX X) : f_X7_may X (8 : Int32) = some (-1 : Int32) := by
  unfold f_X7_may
  rw [h.k8, bd_s, if_pos rfl]
theorem n_undo {X : Nat → Ob} (h : RX X) : f_X7_undo X (8 : Int32) = some ((-1 : Int32), X) := by
  unfold f_X7_undo
  rw [h.k8, bd_s, if_pos rfl]
theorem n_tie {X : Nat → Ob} (h : RX X) : f_X7_tie X (0 : Int32) (0 : Int32) (0 : Int32) (0 : Int32) (0 : Int32) = some ((-1 : Int32), X) := by
  obtain ⟨v, hT, hv⟩ := h.tv
  have e : good v (0 : Int32) (0 : Int32) (0 : Int32) (0 : Int32) (0 : Int32) = false := by
    unfold good
    rw [show decide (¬ (0 : Int32) = (0 : Int32)) = false from by decide]
    cases inb (0 : Int32) (v.1 0) <;> rfl
  unfold f_X7_tie
  rw [suits_c hT hv, e, bd_s, if_pos (show b2i false = (0 : Int32) from rfl)]
theorem n_pull {X : Nat → Ob} (h : RX X) : f_X7_pull X (8 : Int32) = some ((-1 : Int32), X) := by
  unfold f_X7_pull
  rw [h.k8, bd_s, if_pos rfl]
theorem n_cut (X : Nat → Ob) : f_X7_cut X (-1 : Int32) = some ((-1 : Int32), X) := by
  unfold f_X7_cut
  rw [show f_X6_isKnot (X 2) (-1 : Int32) = some (0 : Int32) from by unfold f_X6_isKnot; rw [if_pos (by decide)], bd_s, if_pos rfl]
theorem n_days (X : Nat → Ob) : f_X7_days X (0 : Int32) = some ((-1 : Int32), X) := by
  unfold f_X7_days
  rw [if_pos (by decide)]
theorem n_loosen {X : Nat → Ob} (h : RX X) : f_X7_loosen X (8 : Int32) = some (-1 : Int32) := by
  unfold f_X7_loosen
  rw [h.k8, bd_s, if_pos rfl]
theorem n_pay (X : Nat → Ob) : f_X7_pay X (-2 : Int32) = some (-1 : Int32) := by
  unfold f_X7_pay
  rw [if_neg (by decide)]
theorem n_frees {X : Nat → Ob} (h : RX X) : f_X7_frees X (6 : Int32) = some (-1 : Int32) := by
  unfold f_X7_frees
  rw [h.p6, bd_s, if_pos rfl]
theorem n_fresh (X : Nat → Ob) : f_X7_fresh X (9 : Int32) (0 : Int32) (0 : Int32) = some (-1 : Int32) := by
  unfold f_X7_fresh
  rw [if_neg (by decide), if_pos (by decide)]
theorem n_tell {X : Nat → Ob} (h : RX X) : f_X7_tell X (8 : Int32) = some ((-1 : Int32), X) := by
  unfold f_X7_tell
  rw [h.k8, bd_s, if_pos rfl]
theorem n_rope : f_X7_isRope (2 : Int32) = some (0 : Int32) := by decide
theorem n_cross (X : Nat → Ob) : f_X7_cross X (2 : Int32) (0 : Int32) = some ((-1 : Int32), X) := by
  unfold f_X7_cross
  rw [n_rope, bd_s, if_pos rfl]
theorem n_smooth (X : Nat → Ob) : f_X7_smooth X (2 : Int32) = some ((-1 : Int32), X) := by
  unfold f_X7_smooth
  rw [n_rope, bd_s, if_pos rfl]
theorem n_loose (X : Nat → Ob) : f_X7_loose X (2 : Int32) (0 : Int32) = some (-1 : Int32) := by
  unfold f_X7_loose
  rw [n_rope, bd_s, if_pos rfl]
theorem n_mark (X : Nat → Ob) : f_X7_mark X (0 : Int32) (4 : Int32) = some (-1 : Int32) := by
  unfold f_X7_mark
  rw [show f_X7_isRope (0 : Int32) = some (1 : Int32) from by decide, bd_s, if_neg (by decide), if_neg (by decide), if_neg (by decide)]
theorem n_year (X : Nat → Ob) : f_X7_year X (0 : Int32) (61 : Int32) (0 : Int32) = some (-1 : Int32) := by
  unfold f_X7_year
  rw [if_neg (by decide), if_neg (by decide), if_neg (by decide), if_pos (by decide)]
theorem n_count (X : Nat → Ob) : f_X7_count X (9 : Int32) = some (-1 : Int32) := by
  unfold f_X7_count
  rw [if_neg (by decide), if_neg (by decide), if_neg (by decide), if_neg (by decide), if_neg (by decide), if_neg (by decide), if_neg (by decide), if_neg (by decide), if_neg (by decide)]
/-! counts in their bounds -/
theorem pc_le : ∀ k, k < 9 → ∀ s, s < 256 → s < 2 ^ k → pc s ≤ k := by decide +kernel
theorem cnts {X : Nat → Ob} (h : RX X) : ∃ a k t d r p q m l : Nat, f_X7_count X (nI 0) = some (nI a) ∧ f_X7_count X (nI 1) = some (nI k) ∧ f_X7_count X (nI 2) = some (nI t) ∧ f_X7_count X (nI 3) = some (nI d) ∧ f_X7_count X (nI 4) = some (nI r) ∧ f_X7_count X (nI 5) = some (nI p) ∧ f_X7_count X (nI 6) = some (nI q) ∧ f_X7_count X (nI 7) = some (nI m) ∧ f_X7_count X (nI 8) = some (nI l) ∧ (X 2).1 9 = nI k ∧ a ≤ 6 ∧ k ≤ 8 ∧ t ≤ k ∧ d ≤ 99 ∧ r ≤ 8 ∧ p ≤ 8 ∧ q ≤ 2 ∧ m ≤ 300 ∧ l ≤ 2 := by
  obtain ⟨o, v, ⟨t1, t2, t3, t4⟩, ⟨n, B, h0⟩, -, -, ⟨rn, R, hr⟩, ⟨pn, K, S, D, hp⟩, ⟨kn, U, hk⟩⟩ := h
  have htd := t3.td
  refine ⟨v.1 0, v.1 3, pc (v.1 4), v.1 5, rn, pn, kn, n, v.1 2, ?_, ?_, ?_, ?_, ?_, ?_, ?_, ?_, ?_, t1.2.2.2.1, t3.1, t3.2.2.2.1, pc_le _ (by have := t3.2.2.2.1; omega) _ htd t3.2.2.2.2.1, t3.2.2.2.2.2.1, hr.1, hp.1, hk.1, h0.1, t3.2.2.1⟩
  · unfold f_X7_count
    rw [if_pos (by decide), t1.1]
  · unfold f_X7_count
    rw [if_neg (by decide), if_pos (by decide), t1.2.2.2.1]
  · unfold f_X7_count
    rw [if_neg (by decide), if_neg (by decide), if_pos (by decide), t1.2.2.2.2.1, bits_c _ htd, bd_s]
  · unfold f_X7_count
    rw [if_neg (by decide), if_neg (by decide), if_neg (by decide), if_pos (by decide), t1.2.2.2.2.2.1]
  · unfold f_X7_count f_X4_size
    rw [if_neg (by decide), if_neg (by decide), if_neg (by decide), if_neg (by decide), if_pos (by decide), hr.2.1, bd_s]
  · unfold f_X7_count f_X1_size
    rw [if_neg (by decide), if_neg (by decide), if_neg (by decide), if_neg (by decide), if_neg (by decide), if_pos (by decide), hp.2.1, bd_s]
  · unfold f_X7_count
    rw [if_neg (by decide), if_neg (by decide), if_neg (by decide), if_neg (by decide), if_neg (by decide), if_neg (by decide), if_pos (by decide), hk.2.1]
  · unfold f_X7_count f_X5_size
    rw [if_neg (by decide), if_neg (by decide), if_neg (by decide), if_neg (by decide), if_neg (by decide), if_neg (by decide), if_neg (by decide), if_pos (by decide), h0.2.1, bd_s]
  · unfold f_X7_count
    rw [if_neg (by decide), if_neg (by decide), if_neg (by decide), if_neg (by decide), if_neg (by decide), if_neg (by decide), if_neg (by decide), if_neg (by decide), if_pos (by decide), t1.2.2.1]
theorem cnt9 {X : Nat → Ob} (h : RX X) {i : Nat} (hi : i < 9) : ∃ c, c < 1000 ∧ f_X7_count X (nI i) = some (nI c) := by
  obtain ⟨a, k, t, d, r, p, q, m, l, c0, c1, c2, c3, c4, c5, c6, c7, c8, -, l0, l1, l2, l3, l4, l5, l6, l7, l8⟩ := cnts h
  have hc : i = 0 ∨ i = 1 ∨ i = 2 ∨ i = 3 ∨ i = 4 ∨ i = 5 ∨ i = 6 ∨ i = 7 ∨ i = 8 := by omega
  rcases hc with rfl | rfl | rfl | rfl | rfl | rfl | rfl | rfl | rfl
  · exact ⟨a, by omega, c0⟩
  · exact ⟨k, by omega, c1⟩
  · exact ⟨t, by omega, c2⟩
  · exact ⟨d, by omega, c3⟩
  · exact ⟨r, by omega, c4⟩
  · exact ⟨p, by omega, c5⟩
  · exact ⟨q, by omega, c6⟩
  · exact ⟨m, by omega, c7⟩
  · exact ⟨l, by omega, c8⟩
theorem may_le {X : Nat → Ob} (h : RX X) {i k : Nat} (hk : (X 2).1 9 = nI k) (hk8 : k ≤ 8) (hi : i < k) {m z : Int32} (hm : f_X7_may X (nI i) = some m) (hz : f_X7_knot X (nI i) (5 : Int32) = some z) : ¬ z < m := by
  obtain ⟨v, hT, hv⟩ := h.tv
  have h8 := hv.2.2.2.1
  have hdy := hv.2.2.2.2.2.1
  have hal := hv.al
  have htd := hv.td
  have e := hT.2.2.2.1.symm.trans hk
  have e := (nI_eq (by omega) (by omega)).mp e
  unfold f_X7_may f_X6_mayToday at hm
  rw [isKnot_n hT hv (show i < v.1 3 by omega), bd_s, if_neg (show ¬ b2i true = (0 : Int32) by decide), hT.2.2.2.2.1, hT.2.2.2.2.2.1, hT.2.1, may_c hT hv (show i < v.1 3 by omega) (show inK v (v.1 4) from hv.2.2.2.2.1) (by omega) (by omega), bd_s, gd_ckz, bd_s, asn_c, bd_s] at hm
  unfold f_X7_knot at hz
  rw [isKnot_n hT hv (show i < v.1 3 by omega), bd_s, if_neg (show ¬ b2i true = (0 : Int32) by decide), if_neg (by decide), if_pos (by decide), if_neg (by decide), if_neg (by decide), if_neg (by decide), if_neg (by decide), if_neg (by decide), if_pos (by decide), hT.2.2.2.2.1, has_c (by omega) (by omega), bd_s, asn_c, bd_s] at hz
  cases hm
  cases hz
  have key : ∀ a b : Bool, ¬ b2i a < b2i (a && b) := by decide
  exact key _ _
