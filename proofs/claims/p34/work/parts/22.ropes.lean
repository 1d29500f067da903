/-! ===== ropes (own text) ===== -/
theorem nI_dec {k : Nat} (h : 1 ≤ k) : nI k + (-nI 1) = nI (k - 1) := by
  rw [← Int32.sub_eq_add_neg, pk_sub h]
def pr (a b : Nat) : Bool := decide (a ^^^ b = 1)
theorem pair_c : ∀ a, a < 8 → ∀ b, b < 8 → f_X3_isPair (nI a) (nI b) = some (b2i (pr a b)) := by decide +kernel
theorem pair_m : ∀ a, a < 8 → ∀ b, b < 8 → f_X8_areUndone (nI a) (nI b) = some (b2i (pr a b)) := by decide +kernel
/-- the loosened crossings: how many, which -/
def red (W : Nat → Nat) : Nat → Nat × (Nat → Nat)
  | 0 => (0, fun _ => 0)
  | n + 1 => if (decide (1 ≤ (red W n).1) && pr ((red W n).2 ((red W n).1 - 1)) (W n)) then ((red W n).1 - 1, (red W n).2) else ((red W n).1 + 1, fun i => if i = (red W n).1 then W n else (red W n).2 i)
theorem red_congr {W V : Nat → Nat} : ∀ n, (∀ i, i < n → W i = V i) → red W n = red V n
  | 0, _ => rfl
  | n + 1, h => by rw [red, red, red_congr n (fun i hi => h i (by omega)), h n (by omega)]
theorem red_le (W : Nat → Nat) : ∀ n, (red W n).1 ≤ n
  | 0 => Nat.le_refl _
  | n + 1 => by
    have h := red_le W n
    rw [red]
    split
    · show (red W n).1 - 1 ≤ n + 1; omega
    · show (red W n).1 + 1 ≤ n + 1; omega
theorem red_lt {W : Nat → Nat} : ∀ n, (∀ i, i < n → W i < 8) → ∀ i, i < (red W n).1 → (red W n).2 i < 8
  | 0, _, i, h => by simp [red] at h
  | n + 1, hW, i, h => by
    have ih := red_lt n (fun i hi => hW i (by omega))
    rw [red] at h ⊢
    split at h
    · rename_i c
      rw [if_pos c]
      exact ih i (by have : i < (red W n).1 - 1 := h; omega)
    · rename_i c
      rw [if_neg c]
      show (if i = (red W n).1 then W n else (red W n).2 i) < 8
      have h' : i < (red W n).1 + 1 := h
      split
      · exact hW n (by omega)
      · exact ih i (by omega)
theorem red_adj {W : Nat → Nat} : ∀ n i, i + 1 < (red W n).1 → pr ((red W n).2 i) ((red W n).2 (i + 1)) = false
  | 0, i, h => by simp [red] at h
  | n + 1, i, h => by
    have ih := red_adj (W := W) n i
    rw [red] at h ⊢
    split at h
    · rename_i c
      rw [if_pos c]
      exact ih (by have : i + 1 < (red W n).1 - 1 := h; omega)
    · rename_i c
      rw [if_neg c]
      have h' : i + 1 < (red W n).1 + 1 := h
      show pr (if i = (red W n).1 then W n else (red W n).2 i) (if i + 1 = (red W n).1 then W n else (red W n).2 (i + 1)) = false
      rw [if_neg (by omega)]
      by_cases q : i + 1 = (red W n).1
      · rw [if_pos q]
        cases hp : pr ((red W n).2 i) (W n)
        · rfl
        · exfalso; apply c
          rw [← q, show i + 1 - 1 = i from rfl, hp]
          simp
      · rw [if_neg q]
        exact ih (by omega)
def RR (r : Nat) (T : Ob) (a b : Nat → Int32) (n : Nat) (W : Nat → Nat) : Prop := n ≤ 16 ∧ (∀ i, i < n → W i < 8) ∧ T.1 2 = nI n ∧ T.1 1 = nI (red W n).1 ∧ (∀ i, i < (red W n).1 → T.2 0 i = nI ((red W n).2 i)) ∧ a r = nI n ∧ ∀ i, i < n → b (16 * r + i) = nI (W i)
theorem at_c {T : Ob} {L : Nat} {S : Nat → Nat} (hL : L ≤ 16) (h1 : T.1 1 = nI L) (h2 : ∀ i, i < L → T.2 0 i = nI (S i)) {i : Nat} (hi : i < L) : f_X3_loosenedAt T (nI i) = some (nI (S i)) := by
  unfold f_X3_loosenedAt
  rw [h1]
  have := h2 i hi
  simp (disch := omega) only [bd_s, nm_s, l_0, l_1, l_2, l_3, l_4, l_5, l_6, l_7, l_8, l_9, l_10, l_16, l_20, l_32, l_44, l_48, l_57, l_59, l_60, l_99, l_100, l_107, l_108, l_112, l_255, l_256, l_300, l_9999, le_nI, lt_nI, eq_nI, cl_nI, ck_nI, gd_d, b2i_z, b2i_o, has_c, has_m, bit_c, within_c, nI_add, if_pos, if_neg, nI_or, nI_and, sh1_nI, pk_sub, gd_ckz, this]
theorem append_c {r : Nat} {T : Ob} {a b : Nat → Int32} {n : Nat} {W : Nat → Nat} (h : RR r T a b n W) {c : Nat} (hc : c < 8) (hn : n < 16) : ∃ T', f_X3_append T (nI c) = some T' ∧ T'.1 2 = nI (n + 1) ∧ T'.1 1 = nI (red (fun i => if i = n then c else W i) (n + 1)).1 ∧ ∀ i, i < (red (fun i => if i = n then c else W i) (n + 1)).1 → T'.2 0 i = nI ((red (fun i => if i = n then c else W i) (n + 1)).2 i) := by
  obtain ⟨h0, hW, h1, h2, h3, -, -⟩ := h
  have hle := red_le W n
  have hlt := red_lt n hW
  have hcg : red (fun i => if i = n then c else W i) n = red W n := red_congr n (fun i hi => by show (if i = n then c else W i) = W i; rw [if_neg (by omega)])
  have hcn : (if n = n then c else W n) = c := if_pos rfl
  unfold f_X3_append
  have e1 : (sF T 2 (T.1 2 + (1 : Int32))).1 1 = nI (red W n).1 := h2
  have e2 : (sF T 2 (T.1 2 + (1 : Int32))).1 2 = nI (n + 1) := by
    show T.1 2 + (1 : Int32) = _
    rw [h1, l_1, nI_add]
  have e3 : ∀ i, i < (red W n).1 → (sF T 2 (T.1 2 + (1 : Int32))).2 0 i = nI ((red W n).2 i) := h3
  rw [nm_s]
  generalize sF T 2 (T.1 2 + (1 : Int32)) = U at *
  rw [red, hcg]
  simp only [↓reduceIte]
  generalize hp : red W n = p at *
  have add : ∃ T', J_X3_append_47 (nI c) U = some T' ∧ T'.1 2 = nI (n + 1) ∧ T'.1 1 = nI (p.1 + 1) ∧ ∀ i, i < p.1 + 1 → T'.2 0 i = nI (if i = p.1 then c else p.2 i) := by
    unfold J_X3_append_47
    refine ⟨sF (sA U 0 p.1 (nI c)) 1 (nI (p.1 + 1)), ?_, e2, rfl, fun i hi => ?_⟩
    · rw [e1]
      simp (disch := omega) only [bd_s, nm_s, l_0, l_1, l_2, l_3, l_4, l_5, l_6, l_7, l_8, l_9, l_10, l_16, l_20, l_32, l_44, l_48, l_57, l_59, l_60, l_99, l_100, l_107, l_108, l_112, l_255, l_256, l_300, l_9999, le_nI, lt_nI, eq_nI, cl_nI, ck_nI, gd_d, b2i_z, b2i_o, has_c, has_m, bit_c, within_c, nI_add, if_pos, if_neg, nI_or, nI_and, sh1_nI, pk_sub, gd_ckz]
      rw [show (sA U 0 p.1 (nI c)).1 1 = nI p.1 from e1, nI_add]
    · show (sA U 0 p.1 (nI c)).2 0 i = _
      rw [tbl_upd]
      by_cases q : i = p.1
      · rw [if_pos q, if_pos q]
      · rw [if_neg q, if_neg q]; exact e3 i (by omega)
  rw [e1]
  by_cases q : p.1 = 0
  · rw [if_pos (by rw [q]; decide), if_neg (by rw [q]; simp)]
    exact add
  · have hq : 1 ≤ p.1 := by omega
    rw [if_neg (by rw [l_0, nI_leI (by omega) (by omega)]; omega), l_1, pk_sub hq, at_c (by omega) e1 e3 (show p.1 - 1 < p.1 by omega), bd_s, pair_c _ (hlt _ (by omega)) c hc, bd_s]
    have hd : decide (1 ≤ p.1) = true := decide_eq_true hq
    rw [hd, Bool.true_and]
    cases q2 : pr (p.2 (p.1 - 1)) c
    · rw [if_pos (show b2i false = (0 : Int32) from rfl), if_neg (by simp)]
      exact add
    · rw [if_neg (show ¬ b2i true = (0 : Int32) from by decide), if_pos rfl]
      exact ⟨sF U 1 (nI (p.1 - 1)), rfl, e2, rfl, fun i hi => e3 i (by have : i < p.1 - 1 := hi; omega)⟩
/-- what the reference has laid out of a rope -/
def LL (r : Nat) (o : Ob) (L e l : Nat) (S : Nat → Nat) : Prop := o.2 25 r = nI e ∧ o.2 26 r = nI l ∧ ∀ i, i < L → o.2 24 (16 * r + i) = nI (S i)
/-- the other rope's layout is kept -/
def LK (r : Nat) (o o' : Ob) : Prop := ∀ r', r' < 2 → r' ≠ r → o'.2 25 r' = o.2 25 r' ∧ o'.2 26 r' = o.2 26 r' ∧ ∀ i, i < 16 → o'.2 24 (16 * r' + i) = o.2 24 (16 * r' + i)
theorem LK.tr {r : Nat} {a b c : Ob} (h1 : LK r a b) (h2 : LK r b c) : LK r a c := fun r' h3 h4 => ⟨(h2 r' h3 h4).1.trans (h1 r' h3 h4).1, (h2 r' h3 h4).2.1.trans (h1 r' h3 h4).2.1, fun i hi => ((h2 r' h3 h4).2.2 i hi).trans ((h1 r' h3 h4).2.2 i hi)⟩
theorem LK.rf (r : Nat) (a : Ob) : LK r a a := fun _ _ _ => ⟨rfl, rfl, fun _ _ => rfl⟩
theorem LK.ll {r r' : Nat} {o o' : Ob} {L e l : Nat} {S : Nat → Nat} (h : LK r o o') (hr : r' < 2) (hne : r' ≠ r) (hL : L ≤ 16) (hl : LL r' o L e l S) : LL r' o' L e l S :=
  ⟨(h r' hr hne).1.trans hl.1, (h r' hr hne).2.1.trans hl.2.1, fun i hi => ((h r' hr hne).2.2 i (by omega)).trans (hl.2.2 i hi)⟩
theorem LK.s24 {r i : Nat} {o : Ob} {x : Int32} (hi : i < 16) : LK r o (sA o 24 (16 * r + i) x) := fun r' h1 h2 => ⟨rfl, rfl, fun j hj => by rw [tbl_upd, if_neg (by omega)]⟩
theorem LK.s25 {r : Nat} {o : Ob} {x : Int32} : LK r o (sA o 25 r x) := fun r' h1 h2 => ⟨by rw [tbl_upd, if_neg h2], rfl, fun j hj => rfl⟩
theorem LK.s26 {r : Nat} {o : Ob} {x : Int32} : LK r o (sA o 26 r x) := fun r' h1 h2 => ⟨rfl, by rw [tbl_upd, if_neg h2], fun j hj => rfl⟩
theorem lay_m {r : Nat} (hr : r < 2) {T o : Ob} {n : Nat} {W : Nat → Nat} (h : RR r T (o.2 18) (o.2 19) n W) : ∃ o', f_X8_layLoose o (nI r) = some o' ∧ Same o o' ∧ LK r o o' ∧ LL r o' (red W n).1 0 (red W n).1 (red W n).2 := by
  obtain ⟨h0, hW, -, -, -, h1, h2⟩ := h
  have hlen := red_le W
  have key := loop_ex (fun f (x : Int32 × Int32 × Ob) => L_X8_layLoose_4 (nI r) f x.1 x.2.1 x.2.2) (fun j x => x.1 = nI (red W j).1 ∧ x.2.1 = nI j ∧ Same o x.2.2 ∧ LK r o x.2.2 ∧ ∀ i, i < (red W j).1 → x.2.2.2 24 (16 * r + i) = nI ((red W j).2 i)) (fun z => z.1 = nI (red W n).1 ∧ Same o z.2 ∧ LK r o z.2 ∧ ∀ i, i < (red W n).1 → z.2.2 24 (16 * r + i) = nI ((red W n).2 i)) n
    (by
      rintro f j ⟨x, y, o1⟩ hj ⟨hx, hy, hs, hk, h3⟩
      have hx : x = nI (red W j).1 := hx
      have hy : y = nI j := hy
      subst hx hy
      have hs : Same o o1 := hs
      have hk : LK r o o1 := hk
      have h3 : ∀ i, i < (red W j).1 → o1.2 24 (16 * r + i) = nI ((red W j).2 i) := h3
      have e1 := hlen j
      have e2 := red_lt (W := W) j (fun i hi => hW i (by omega))
      have e3 := hW j hj
      have f1 : o1.2 18 r = nI n := by rw [hs.2 18 (by omega)]; exact h1
      have f2 : o1.2 19 (16 * r + j) = nI (W j) := by rw [hs.2 19 (by omega)]; exact h2 j hj
      rw [red]
      generalize hp : red W j = p at *
      have add : J_X8_layLoose_58l4 (L_X8_layLoose_4 (nI r) f) (nI r) (nI p.1) (nI j) (nI (W j)) o1 = L_X8_layLoose_4 (nI r) f (nI (p.1 + 1)) (nI (j + 1)) (sA o1 24 (16 * r + p.1) (nI (W j))) := by
        unfold J_X8_layLoose_58l4
        simp (disch := omega) only [bd_s, nm_s, l_0, l_1, l_2, l_3, l_4, l_5, l_6, l_7, l_8, l_9, l_10, l_16, l_20, l_32, l_44, l_48, l_57, l_59, l_60, l_99, l_100, l_107, l_108, l_112, l_255, l_256, l_300, l_9999, le_nI, lt_nI, eq_nI, cl_nI, ck_nI, gd_d, b2i_z, b2i_o, has_c, has_m, bit_c, within_c, nI_add, if_pos, if_neg, nI_or, nI_and, sh1_nI, pk_sub, gd_ckz, pk_mul]
      have addR : nI (p.1 + 1) = nI (p.1 + 1) ∧ nI (j + 1) = nI (j + 1) ∧ Same o (sA o1 24 (16 * r + p.1) (nI (W j))) ∧ LK r o (sA o1 24 (16 * r + p.1) (nI (W j))) ∧ ∀ i, i < p.1 + 1 → (sA o1 24 (16 * r + p.1) (nI (W j))).2 24 (16 * r + i) = nI (if i = p.1 then W j else p.2 i) := by
        refine ⟨rfl, rfl, hs.tr (Same.set (by omega)), hk.tr (LK.s24 (by omega)), fun i hi => ?_⟩
        rw [tbl_upd]
        by_cases q : i = p.1
        · rw [if_pos (by omega), if_pos q]
        · rw [if_neg (by omega), if_neg q]; exact h3 i (by omega)
      have st : L_X8_layLoose_4_step (nI r) (L_X8_layLoose_4 (nI r) f) (nI p.1) (nI j) o1 = (if p.1 = 0 then L_X8_layLoose_4 (nI r) f (nI (p.1 + 1)) (nI (j + 1)) (sA o1 24 (16 * r + p.1) (nI (W j))) else if pr (p.2 (p.1 - 1)) (W j) then L_X8_layLoose_4 (nI r) f (nI (p.1 - 1)) (nI (j + 1)) o1 else L_X8_layLoose_4 (nI r) f (nI (p.1 + 1)) (nI (j + 1)) (sA o1 24 (16 * r + p.1) (nI (W j)))) := by
        unfold L_X8_layLoose_4_step
        simp (disch := omega) only [bd_s, nm_s, l_0, l_1, l_2, l_3, l_4, l_5, l_6, l_7, l_8, l_9, l_10, l_16, l_20, l_32, l_44, l_48, l_57, l_59, l_60, l_99, l_100, l_107, l_108, l_112, l_255, l_256, l_300, l_9999, le_nI, lt_nI, eq_nI, cl_nI, ck_nI, gd_d, b2i_z, b2i_o, has_c, has_m, bit_c, within_c, nI_add, if_pos, if_neg, nI_or, nI_and, sh1_nI, pk_sub, gd_ckz, pk_mul, f1, f2, add]
        by_cases q : p.1 = 0
        · rw [if_pos (by omega), if_pos q]
        · rw [if_neg (by omega), if_neg q]
          have g1 : 16 * r + p.1 - 1 = 16 * r + (p.1 - 1) := by omega
          have g2 := h3 (p.1 - 1) (by omega)
          have g3 := pair_m _ (e2 (p.1 - 1) (by omega)) _ e3
          simp (disch := omega) only [bd_s, nm_s, l_0, l_1, l_2, l_3, l_4, l_5, l_6, l_7, l_8, l_9, l_10, l_16, l_20, l_32, l_44, l_48, l_57, l_59, l_60, l_99, l_100, l_107, l_108, l_112, l_255, l_256, l_300, l_9999, le_nI, lt_nI, eq_nI, cl_nI, ck_nI, gd_d, b2i_z, b2i_o, has_c, has_m, bit_c, within_c, nI_add, if_pos, if_neg, nI_or, nI_and, sh1_nI, pk_sub, gd_ckz, g1, g2, g3, nI_dec]
          cases q2 : pr (p.2 (p.1 - 1)) (W j) <;> simp
      by_cases q : p.1 = 0
      · rw [if_pos q] at st
        rw [if_neg (by simp [q])]
        exact ⟨(nI (p.1 + 1), nI (j + 1), sA o1 24 (16 * r + p.1) (nI (W j))), st, addR⟩
      · rw [if_neg q] at st
        cases q2 : pr (p.2 (p.1 - 1)) (W j)
        · rw [q2, if_neg (by simp)] at st
          rw [if_neg (by simp)]
          exact ⟨(nI (p.1 + 1), nI (j + 1), sA o1 24 (16 * r + p.1) (nI (W j))), st, addR⟩
        · rw [q2, if_pos rfl] at st
          rw [if_pos (by simp; omega)]
          exact ⟨(nI (p.1 - 1), nI (j + 1), o1), st, rfl, rfl, hs, hk, fun i hi => h3 i (by have : i < p.1 - 1 := hi; omega)⟩)
    (by
      rintro f ⟨x, y, o1⟩ ⟨hx, hy, hs, hk, h3⟩
      have hx : x = nI (red W n).1 := hx
      have hy : y = nI n := hy
      subst hx hy
      have hs : Same o o1 := hs
      refine ⟨(nI (red W n).1, o1), ?_, rfl, hs, hk, h3⟩
      show L_X8_layLoose_4_step (nI r) (L_X8_layLoose_4 (nI r) f) _ _ _ = _
      unfold L_X8_layLoose_4_step
      have f1 : o1.2 18 r = nI n := by rw [hs.2 18 (by omega)]; exact h1
      simp (disch := omega) only [bd_s, nm_s, l_0, l_1, l_2, l_3, l_4, l_5, l_6, l_7, l_8, l_9, l_10, l_16, l_20, l_32, l_44, l_48, l_57, l_59, l_60, l_99, l_100, l_107, l_108, l_112, l_255, l_256, l_300, l_9999, le_nI, lt_nI, eq_nI, cl_nI, ck_nI, gd_d, b2i_z, b2i_o, has_c, has_m, bit_c, within_c, nI_add, if_pos, if_neg, nI_or, nI_and, sh1_nI, pk_sub, gd_ckz, f1]) n 0 (nI 0, nI 0, o) 512 (by omega) (by omega) ⟨rfl, rfl, Same.rf o, LK.rf r o, fun i hi => by simp [red] at hi⟩
  obtain ⟨⟨z, o1⟩, k1, hz, hs, hk, h3⟩ := key
  have hz : z = nI (red W n).1 := hz
  subst hz
  have k1 : L_X8_layLoose_4 (nI r) 512 (nI 0) (nI 0) o = some (nI (red W n).1, o1) := k1
  have hs : Same o o1 := hs
  have hk : LK r o o1 := hk
  refine ⟨sA (sA o1 25 r (nI 0)) 26 r (nI (red W n).1), ?_, (hs.tr (Same.set (by omega))).tr (Same.set (by omega)), (hk.tr LK.s25).tr LK.s26, ?_, ?_, h3⟩
  · unfold f_X8_layLoose
    simp (disch := omega) only [bd_s, nm_s, l_0, l_1, l_2, l_3, l_4, l_5, l_6, l_7, l_8, l_9, l_10, l_16, l_20, l_32, l_44, l_48, l_57, l_59, l_60, l_99, l_100, l_107, l_108, l_112, l_255, l_256, l_300, l_9999, le_nI, lt_nI, eq_nI, cl_nI, ck_nI, gd_d, b2i_z, b2i_o, has_c, has_m, bit_c, within_c, nI_add, if_pos, if_neg, nI_or, nI_and, sh1_nI, pk_sub, gd_ckz, k1]
  · show (sA o1 25 r (nI 0)).2 25 r = _
    rw [tbl_upd, if_pos rfl]
  · rw [tbl_upd, if_pos rfl]
theorem rope_c {x : Int32} : f_X7_isRope x = some (b2i (inb x 2)) := by
  unfold f_X7_isRope
  by_cases q0 : x = 0
  · rw [if_pos q0, q0]; rfl
  · by_cases q1 : x = 1
    · rw [if_neg q0, if_pos q1, q1]; rfl
    · rw [if_neg q0, if_neg q1]
      cases h : inb x 2
      · rfl
      · obtain ⟨k, hk, rfl⟩ := inb_of (by omega) h
        have : k = 0 ∨ k = 1 := by omega
        rcases this with rfl | rfl
        · exact absurd rfl q0
        · exact absurd rfl q1
theorem rope_m {x : Int32} : f_X8_in x.toInt64 (0 : Int64) (1 : Int64) = some (b2i (inb x 2)) := by
  rw [in_m, tl_i, z64, show (1 : Int64).toInt = ((2 : Nat) : Int) - 1 from by decide, inb_d]
theorem loose_both {r : Nat} (hr : r < 2) {T o : Ob} {n : Nat} {W : Nat → Nat} (h : RR r T (o.2 18) (o.2 19) n W) (y : Int32) (hy : (-1 : Int32) ≤ y) : ∃ z o', (if y = (-1 : Int32) then bd (f_X3_loosenedSize T) (fun z5 => some z5) else bd (f_X3_loosenedAt T y) (fun z4 => some z4)) = some z ∧ bd (f_X8_layLoose o (nI r)) (fun z2 => if (0 : Int32) ≤ y then gd (ck (nI r) 2) (if z2.2 26 (nI r).toNatClampNeg ≤ y then some ((-4 : Int32), z2) else gd (ck (((16 : Int32) * nI r) + y) 32) (some (z2.2 24 (((16 : Int32) * nI r) + y).toNatClampNeg, z2))) else gd (ck (nI r) 2) (some (z2.2 26 (nI r).toNatClampNeg, z2))) = some (z, o') ∧ Same o o' := by
  obtain ⟨o', m1, m2, -, m3, m4, m5⟩ := lay_m hr h
  have hle := red_le W n
  have h0 := h.1
  rw [m1]
  by_cases q : y = -1
  · subst q
    refine ⟨nI (red W n).1, o', ?_, ?_, m2⟩
    · rw [if_pos rfl]
      show some (T.1 1) = _
      rw [h.2.2.2.1]
    · simp (disch := omega) only [bd_s, cl_nI, ck_nI, gd_d, m4]
      rw [if_neg (by decide)]
  · obtain ⟨j, hj, rfl⟩ := neg_or_nat hy q
    rw [if_neg q]
    by_cases q2 : j < (red W n).1
    · refine ⟨nI ((red W n).2 j), o', ?_, ?_, m2⟩
      · rw [at_c (by omega) h.2.2.2.1 h.2.2.2.2.1 q2]; rfl
      · have := m5 j q2
        have q3 : ¬ (red W n).1 ≤ j := by omega
        simp (disch := omega) only [bd_s, nm_s, l_0, l_1, l_2, l_3, l_4, l_5, l_6, l_7, l_8, l_9, l_10, l_16, l_20, l_32, l_44, l_48, l_57, l_59, l_60, l_99, l_100, l_107, l_108, l_112, l_255, l_256, l_300, l_9999, le_nI, lt_nI, eq_nI, cl_nI, ck_nI, gd_d, b2i_z, b2i_o, has_c, has_m, bit_c, within_c, nI_add, if_pos, if_neg, nI_or, nI_and, sh1_nI, pk_sub, gd_ckz, pk_mul, m4, this]
    · have q3 : (red W n).1 ≤ j := by omega
      refine ⟨(-4 : Int32), o', ?_, ?_, m2⟩
      · unfold f_X3_loosenedAt
        rw [h.2.2.2.1, if_neg (show ¬ nI j < (0 : Int32) from fun e => absurd e (nI_pos hj)), if_pos (nI_le q3 (by omega))]
        rfl
      · rw [bd_s, if_pos (show (0 : Int32) ≤ nI j from nI_pos' (by omega)), cl_nI (by omega), ck_nI (by omega), gd_d hr, m4, if_pos (nI_le q3 (by omega))]
