/-! ===== the text that the law writes (own text) ===== -/
def TL (T : Ob) (bs : List Nat) : Prop := bs.length ≤ 300 ∧ T.1 1 = nI bs.length ∧ ∀ i, i < bs.length → bs.getD i 0 < 256 ∧ T.2 0 i = nI (bs.getD i 0)
def RX (X : Nat → Ob) : Prop := ∃ o, Rl X o
theorem byt0 : ∀ b, b < 256 → (((((nI b).toInt64.toUInt64 >>> (((8 : Int32) * (0 : Int32)).toInt64.toUInt64 &&& Int64.toUInt64 63)).toInt64).toInt32) &&& (255 : Int32)) = nI b := by decide +kernel
theorem gd1 (bs : List Nat) (b i : Nat) : (bs ++ [b]).getD i 0 = if i = bs.length then b else bs.getD i 0 := by
  rw [List.getD_eq_getElem?_getD, List.getD_eq_getElem?_getD, List.getElem?_append]
  by_cases q : i < bs.length
  · rw [if_pos q, if_neg (by omega)]
  · rw [if_neg q]
    by_cases q2 : i = bs.length
    · subst q2; simp
    · rw [if_neg q2, List.getElem?_eq_none (by simp; omega), List.getElem?_eq_none (by omega)]
theorem append1 {T : Ob} {bs : List Nat} (h : TL T bs) (hn : bs.length < 300) {b : Nat} (hb : b < 256) : ∃ T', f_X5_append T (nI b) = some T' ∧ TL T' (bs ++ [b]) := by
  obtain ⟨h1, h2, h3⟩ := h
  refine ⟨sF (sA T 0 bs.length (nI b)) 1 (nI (bs.length + 1)), ?_, ?_⟩
  · unfold f_X5_append
    rw [h2, if_neg (by rw [l_300, nI_leI (by omega) (by omega)]; omega)]
    simp (disch := omega) only [bd_s, nm_s, cl_nI, ck_nI, gd_d]
    show some (sF (sA T 0 bs.length (nI b)) 1 (T.1 1 + (1 : Int32))) = _
    rw [h2, l_1, nI_add]
  · refine ⟨by rw [List.length_append]; show bs.length + 1 ≤ 300; omega, by rw [List.length_append]; rfl, fun i hi => ?_⟩
    rw [List.length_append] at hi
    have hi : i < bs.length + 1 := hi
    rw [gd1, sF2, sA2]
    by_cases q : i = bs.length
    · rw [if_pos q, if_pos ⟨rfl, q⟩]
      exact ⟨hb, rfl⟩
    · rw [if_neg q, if_neg (fun c => q c.2)]
      exact h3 i (by omega)
theorem write1 {X : Nat → Ob} {bs : List Nat} (h : TL (X 0) bs) (hR : RX X) (hn : bs.length < 300) {b : Nat} (hb : b < 256) : ∃ X', f_X7_write X (1 : Int32) (nI b).toInt64 = some (nI (bs.length + 1), X') ∧ TL (X' 0) (bs ++ [b]) ∧ RX X' := by
  obtain ⟨T', a1, a2⟩ := append1 h hn hb
  have e : f_X7_write X (1 : Int32) (nI b).toInt64 = some (nI (bs.length + 1), sX X 0 T') := by
    unfold f_X7_write
    rw [if_neg (by decide), if_pos (by decide)]
    have e1 : f_X5_size (X 0) = some (nI bs.length) := by unfold f_X5_size; rw [h.2.1]
    have e2 : L_X7_write_36 (nI b).toInt64 512 ((1 : Int32) - (1 : Int32)) X = some (sX X 0 T') := by
      show L_X7_write_36_step (nI b).toInt64 (L_X7_write_36 (nI b).toInt64 511) ((1 : Int32) - (1 : Int32)) X = _
      rw [show (1 : Int32) - (1 : Int32) = (0 : Int32) from by decide]
      unfold L_X7_write_36_step
      rw [if_neg (by decide), byt0 b hb, a1, bd_s, nm_s, nm_s]
      show L_X7_write_36_step (nI b).toInt64 (L_X7_write_36 (nI b).toInt64 510) ((0 : Int32) + (-1 : Int32)) (sX X 0 T') = _
      unfold L_X7_write_36_step
      rw [if_pos (by decide)]
    rw [e1, bd_s, if_pos (by rw [l_1, nI_add, l_300, nI_leI (by omega) (by omega)]; omega), nm_s, e2, bd_s]
    show bd (f_X5_size T') _ = _
    unfold f_X5_size
    rw [a2.2.1, bd_s, List.length_append]; rfl
  refine ⟨sX X 0 T', e, a2, ?_⟩
  obtain ⟨o, ho⟩ := hR
  obtain ⟨r, X_, o_, b1, b2, b3⟩ := s_write X o ho (1 : Int32) (nI b).toInt64
  rw [e] at b1
  cases b1
  exact ⟨o_, b3⟩
def dg (v : Nat) : List Nat := if v < 10 then [48 + v] else [48 + v / 10, 48 + v % 10]
theorem dg_len (v : Nat) : (dg v).length ≤ 2 ∧ 1 ≤ (dg v).length := by
  unfold dg
  split <;> exact ⟨by simp, by simp⟩
theorem dgt10 : ∀ v, v < 100 → ((48 : Int32) + ((nI v / nI 10) - (nI v / nI 10) / (10 : Int32) * (10 : Int32))) = nI (48 + v / 10) := by decide +kernel
theorem dgt1 : ∀ v, v < 100 → ((48 : Int32) + ((nI v / nI 1) - (nI v / nI 1) / (10 : Int32) * (10 : Int32))) = nI (48 + v % 10) := by decide +kernel
theorem numJ {X : Nat → Ob} {bs : List Nat} (h : TL (X 0) bs) (hR : RX X) (hn : bs.length < 300) {d : Nat} (hd : d < 256) (x1 x2 x4 : Int32) (h4 : ¬ x4 = (0 : Int32)) (he : (48 : Int32) + ((x1 / x4) - (x1 / x4) / (10 : Int32) * (10 : Int32)) = nI d) (self : Int32 → Int32 → (Nat → Ob) → Option (Int32 × (Nat → Ob))) : ∃ X', J_L_number_27l6 self x1 x2 x4 X = self (1 : Int32) (x4 / (10 : Int32)) X' ∧ TL (X' 0) (bs ++ [d]) ∧ RX X' := by
  obtain ⟨X', a, b, c⟩ := write1 h hR hn hd
  refine ⟨X', ?_, b, c⟩
  unfold J_L_number_27l6
  rw [gd_d h4, he, a, bd_s, if_neg (show ¬ nI (bs.length + 1) ≤ (0 : Int32) from nI_nle (by omega) (by omega)), nm_s]
theorem num1 {X : Nat → Ob} {bs : List Nat} (h : TL (X 0) bs) (hR : RX X) (hn : bs.length < 300) {v : Nat} (hv : v < 100) (x2 : Int32) (f : Nat) : ∃ X', L_L_number_6 (nI v) x2 (f + 2) (1 : Int32) (nI 1) X = some ((1 : Int32), X') ∧ TL (X' 0) (bs ++ [48 + v % 10]) ∧ RX X' := by
  obtain ⟨X', a, b, c⟩ := numJ h hR hn (d := 48 + v % 10) (by omega) (nI v) x2 (nI 1) (by decide) (dgt1 v hv) (L_L_number_6 (nI v) x2 (f + 1))
  refine ⟨X', ?_, b, c⟩
  show L_L_number_6_step (nI v) x2 (L_L_number_6 (nI v) x2 (f + 1)) (1 : Int32) (nI 1) X = _
  have e0 : L_L_number_6 (nI v) x2 (f + 1) (1 : Int32) (nI 1 / (10 : Int32)) X' = some ((1 : Int32), X') := by
    show L_L_number_6_step (nI v) x2 (L_L_number_6 (nI v) x2 f) (1 : Int32) (nI 1 / (10 : Int32)) X' = _
    unfold L_L_number_6_step
    rw [if_pos (by decide)]
  unfold L_L_number_6_step
  rw [if_neg (by decide), if_neg (by decide)]
  by_cases q : nI 1 ≤ nI v
  · rw [if_pos q, a, e0]
  · rw [if_neg q, if_neg (by decide), a, e0]
theorem number_ok {X : Nat → Ob} {bs : List Nat} (h : TL (X 0) bs) (hR : RX X) (hn : bs.length + 3 ≤ 300) {v sg : Nat} (hv : v < 100) (hs : sg < 256) : ∃ X', f_L_number X (nI v) (nI sg) = some ((1 : Int32), X') ∧ TL (X' 0) (bs ++ (dg v ++ [sg])) ∧ RX X' := by
  have F : ∃ X', L_L_number_6 (nI v) (nI sg) 512 (1 : Int32) (100 : Int32) X = some ((1 : Int32), X') ∧ TL (X' 0) (bs ++ dg v) ∧ RX X' := by
    have s1 : L_L_number_6 (nI v) (nI sg) 512 (1 : Int32) (100 : Int32) X = L_L_number_6 (nI v) (nI sg) 511 (1 : Int32) (nI 10) X := by
      show L_L_number_6_step (nI v) (nI sg) (L_L_number_6 (nI v) (nI sg) 511) (1 : Int32) (100 : Int32) X = _
      unfold L_L_number_6_step
      rw [if_neg (by decide), if_neg (by decide), if_neg (by rw [l_100, nI_leI (by omega) (by omega)]; omega), if_pos (by decide), nm_s, show (100 : Int32) / (10 : Int32) = nI 10 from by decide]
    rw [s1]
    by_cases q : v < 10
    · obtain ⟨X', a, b, c⟩ := num1 h hR (by omega) hv (nI sg) 508
      refine ⟨X', ?_, ?_, c⟩
      · show L_L_number_6_step (nI v) (nI sg) (L_L_number_6 (nI v) (nI sg) 510) (1 : Int32) (nI 10) X = _
        unfold L_L_number_6_step
        rw [if_neg (by decide), if_neg (by decide), if_neg (by rw [nI_leI (by omega) (by omega)]; omega), if_pos (by decide), nm_s, show nI 10 / (10 : Int32) = nI 1 from by decide]
        exact a
      · unfold dg
        rw [if_pos q]
        rw [Nat.mod_eq_of_lt q] at b
        exact b
    · obtain ⟨X1, a1, b1, c1⟩ := numJ h hR (by omega) (d := 48 + v / 10) (by omega) (nI v) (nI sg) (nI 10) (by decide) (dgt10 v hv) (L_L_number_6 (nI v) (nI sg) 510)
      obtain ⟨X', a, b, c⟩ := num1 b1 c1 (by rw [List.length_append]; show bs.length + 1 < 300; omega) hv (nI sg) 508
      refine ⟨X', ?_, ?_, c⟩
      · show L_L_number_6_step (nI v) (nI sg) (L_L_number_6 (nI v) (nI sg) 510) (1 : Int32) (nI 10) X = _
        unfold L_L_number_6_step
        rw [if_neg (by decide), if_neg (by decide), if_pos (by rw [nI_leI (by omega) (by omega)]; omega), a1, show nI 10 / (10 : Int32) = nI 1 from by decide]
        exact a
      · unfold dg
        rw [if_neg q]
        rw [List.append_assoc] at b
        exact b
  obtain ⟨X1, a1, b1, c1⟩ := F
  have hl := dg_len v
  obtain ⟨X', a, b, c⟩ := write1 b1 c1 (b := sg) (by rw [List.length_append]; omega) hs
  refine ⟨X', ?_, by rw [← List.append_assoc]; exact b, c⟩
  unfold f_L_number
  rw [a1, bd_s, if_neg (show ¬ (1 : Int32) = (0 : Int32) by decide)]
  show bd (f_X7_write X1 (1 : Int32) (nI sg).toInt64) _ = _
  rw [a, bd_s, if_neg (show ¬ nI ((bs ++ dg v).length + 1) ≤ (0 : Int32) from nI_nle (by omega) (by rw [List.length_append]; omega))]
/-- the numbers i .. of an item of m numbers -/
def tkR (xs : Nat → Nat) (m : Nat) : Nat → Nat → List Nat
  | 0, _ => []
  | d + 1, i => (dg (xs i) ++ [if i + 1 = m then 59 else 44]) ++ tkR xs m d (i + 1)
theorem tkR_len (xs : Nat → Nat) (m : Nat) : ∀ d i, (tkR xs m d i).length ≤ 3 * d
  | 0, _ => by simp [tkR]
  | d + 1, i => by
    have h1 := dg_len (xs i)
    have h2 := tkR_len xs m d (i + 1)
    show ((dg (xs i) ++ [if i + 1 = m then 59 else 44]) ++ tkR xs m d (i + 1)).length ≤ _
    rw [List.length_append, List.length_append]
    show (dg (xs i)).length + 1 + _ ≤ _
    omega
abbrev It : Type := Nat × Nat × (Nat → Nat)
def tkI (t : It) : List Nat := t.1 :: tkR t.2.2 t.2.1 t.2.1 0
theorem tkI_len (t : It) : (tkI t).length ≤ 3 * t.2.1 + 1 := by
  have := tkR_len t.2.2 t.2.1 t.2.1 0
  show (tkR t.2.2 t.2.1 t.2.1 0).length + 1 ≤ _
  omega
theorem item_loop {m : Nat} (hm : m ≤ 5) (xs : Nat → Nat) (hx : ∀ i, i < m → xs i < 100) : ∀ (d i f : Nat) (X : Nat → Ob) (bs : List Nat), i + d = m → d < f → TL (X 0) bs → RX X → bs.length + 3 * d ≤ 300 → ∃ X', L_L_item_20 (nI m) (nI (xs 0)) (nI (xs 1)) (nI (xs 2)) (nI (xs 3)) (nI (xs 4)) f (1 : Int32) (nI i) X = some ((1 : Int32), X') ∧ TL (X' 0) (bs ++ tkR xs m d i) ∧ RX X' := by
  intro d
  induction d with
  | zero =>
    intro i f X bs hi hf h hR hn
    obtain ⟨f, rfl⟩ : ∃ k, f = k + 1 := ⟨f - 1, by omega⟩
    refine ⟨X, ?_, by rw [show tkR xs m 0 i = [] from rfl, List.append_nil]; exact h, hR⟩
    show L_L_item_20_step (nI m) (nI (xs 0)) (nI (xs 1)) (nI (xs 2)) (nI (xs 3)) (nI (xs 4)) (L_L_item_20 (nI m) (nI (xs 0)) (nI (xs 1)) (nI (xs 2)) (nI (xs 3)) (nI (xs 4)) f) (1 : Int32) (nI i) X = _
    unfold L_L_item_20_step
    rw [if_pos (nI_le (show m ≤ i by omega) (by omega))]
  | succ d ih =>
    intro i f X bs hi hf h hR hn
    obtain ⟨f, rfl⟩ : ∃ k, f = k + 1 := ⟨f - 1, by omega⟩
    have hsg : (if i + 1 = m then 59 else 44) < 256 := by split <;> omega
    obtain ⟨X1, a1, b1, c1⟩ := number_ok h hR (by omega) (v := xs i) (hx i (by omega)) hsg
    have hl := dg_len (xs i)
    obtain ⟨X', a, b, c⟩ := ih (i + 1) f X1 _ (by omega) (by omega) b1 c1 (by rw [List.length_append, List.length_append]; show bs.length + ((dg (xs i)).length + 1) + _ ≤ _; omega)
    refine ⟨X', ?_, by rw [List.append_assoc] at b; exact b, c⟩
    show L_L_item_20_step (nI m) (nI (xs 0)) (nI (xs 1)) (nI (xs 2)) (nI (xs 3)) (nI (xs 4)) (L_L_item_20 (nI m) (nI (xs 0)) (nI (xs 1)) (nI (xs 2)) (nI (xs 3)) (nI (xs 4)) f) (1 : Int32) (nI i) X = _
    generalize L_L_item_20 (nI m) (nI (xs 0)) (nI (xs 1)) (nI (xs 2)) (nI (xs 3)) (nI (xs 4)) f = self at a ⊢
    have J : J_L_item_76l20 self (nI (xs i)) (nI m) (nI (xs 0)) (nI (xs 1)) (nI (xs 2)) (nI (xs 3)) (nI (xs 4)) (nI i) X = some ((1 : Int32), X') := by
      have J1 : J_L_item_91l20 self (nI (xs i)) (nI (if i + 1 = m then 59 else 44)) (nI m) (nI (xs 0)) (nI (xs 1)) (nI (xs 2)) (nI (xs 3)) (nI (xs 4)) (nI i) X = some ((1 : Int32), X') := by
        unfold J_L_item_91l20
        rw [a1, bd_s, if_neg (show ¬ (1 : Int32) = (0 : Int32) by decide), l_1, nI_add, nm_s]
        exact a
      unfold J_L_item_76l20
      rw [l_1, pk_sub (by omega), l_59, l_44]
      by_cases q : i + 1 = m
      · rw [if_pos q] at J1
        rw [if_pos (nI_le (show m - 1 ≤ i by omega) (by omega))]
        exact J1
      · rw [if_neg q] at J1
        rw [if_neg (nI_ge (show i < m - 1 by omega) (by omega))]
        exact J1
    unfold L_L_item_20_step
    rw [if_neg (nI_ge (show i < m by omega) (by omega)), if_neg (show ¬ (1 : Int32) = (0 : Int32) by decide)]
    have hc : i = 0 ∨ i = 1 ∨ i = 2 ∨ i = 3 ∨ i = 4 := by omega
    rcases hc with rfl | rfl | rfl | rfl | rfl
    · rw [if_pos (show nI 0 = (0 : Int32) from rfl)]; exact J
    · rw [if_neg (show ¬ nI 1 = (0 : Int32) by decide), if_pos (show nI 1 = (1 : Int32) from rfl)]; exact J
    · rw [if_neg (show ¬ nI 2 = (0 : Int32) by decide), if_neg (show ¬ nI 2 = (1 : Int32) by decide), if_pos (show nI 2 = (2 : Int32) from rfl)]; exact J
    · rw [if_neg (show ¬ nI 3 = (0 : Int32) by decide), if_neg (show ¬ nI 3 = (1 : Int32) by decide), if_neg (show ¬ nI 3 = (2 : Int32) by decide), if_pos (show nI 3 = (3 : Int32) from rfl)]; exact J
    · rw [if_neg (show ¬ nI 4 = (0 : Int32) by decide), if_neg (show ¬ nI 4 = (1 : Int32) by decide), if_neg (show ¬ nI 4 = (2 : Int32) by decide), if_neg (show ¬ nI 4 = (3 : Int32) by decide)]; exact J
theorem item_ok {X : Nat → Ob} {bs : List Nat} (h : TL (X 0) bs) (hR : RX X) {c m : Nat} (hc : c < 256) (hm : m ≤ 5) {xs : Nat → Nat} (hx : ∀ i, i < m → xs i < 100) (hn : bs.length + 16 ≤ 300) : ∃ X', f_L_item X (nI c) (nI m) (nI (xs 0)) (nI (xs 1)) (nI (xs 2)) (nI (xs 3)) (nI (xs 4)) = some ((1 : Int32), X') ∧ TL (X' 0) (bs ++ tkI (c, m, xs)) ∧ RX X' := by
  obtain ⟨X1, a1, b1, c1⟩ := write1 h hR (b := c) (by omega) hc
  obtain ⟨X', a2, b2, c2⟩ := item_loop hm xs hx m 0 512 X1 _ (by omega) (by omega) b1 c1 (by rw [List.length_append]; show bs.length + 1 + _ ≤ _; omega)
  refine ⟨X', ?_, by rw [List.append_assoc] at b2; exact b2, c2⟩
  unfold f_L_item
  rw [a1, bd_s, if_neg (show ¬ nI (bs.length + 1) ≤ (0 : Int32) from nI_nle (by omega) (by omega))]
  show bd (L_L_item_20 (nI m) (nI (xs 0)) (nI (xs 1)) (nI (xs 2)) (nI (xs 3)) (nI (xs 4)) 512 (1 : Int32) (nI 0) X1) _ = _
  rw [a2, bd_s, show ckz (1 : Int32) = true from by decide, gd_t]
