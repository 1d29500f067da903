/-! ===== the whole text read; towns copied; bytes written (own text) ===== -/
def v0 : TV := (fun _ => 0, fun _ _ => 0)
theorem v0_ok : TOK v0 := ⟨by decide, by decide, by decide, by decide, by decide, by decide, fun k hk => by exact absurd hk (Nat.not_lt_zero k)⟩
theorem read_both {T o : Ob} {n : Nat} {B : Nat → Nat} (ht : TX T o n B) (T3 o0 : Ob) : ∃ z o0' T3' o', f_X2_read o0 T T3 = some (z, o0', T3') ∧ f_X8_readAll o = some (z, o') ∧ Fr o o' ∧ (z = (-4 : Int32) → ∃ w, TC T3' w ∧ MB o' 1 1 w ∧ TOK w) := by
  have hn := ht.1
  have main : ∀ d p c f g (o0 T3 o1 : Ob) (w : TV), n - p ≤ d → p ≤ n → c ≤ p → d < f → d < g → TX T o1 n B → o1.1 20 = nI p → TC T3 w → MB o1 1 1 w → TOK w → (∃ q o0' T3' o' x, q < n ∧ L_X2_read_9 T f (nI p) (nI c) o0 T3 = some (0, nI q, o0', T3') ∧ L_X8_readAll_10 g o1 = some (0, nI q, o') ∧ Fr o1 o' ∧ x = q) ∨ (∃ q o0' T3' o' w', L_X2_read_9 T f (nI p) (nI c) o0 T3 = some (1, q, o0', T3') ∧ L_X8_readAll_10 g o1 = some (1, (0 : Int32), o') ∧ Fr o1 o' ∧ TC T3' w' ∧ MB o' 1 1 w' ∧ TOK w') := by
    intro d
    induction d with
    | zero =>
      intro p c f g o0 T3 o1 w h1 h2 h3 hf hg ht1 hp hT hM hw
      obtain ⟨f, rfl⟩ : ∃ k, f = k + 1 := ⟨f - 1, by omega⟩
      obtain ⟨g, rfl⟩ : ∃ k, g = k + 1 := ⟨g - 1, by omega⟩
      right
      refine ⟨nI p, o0, T3, o1, w, ?_, ?_, Fr.rf o1, hT, hM, hw⟩
      · show L_X2_read_9_step T (L_X2_read_9 T f) (nI p) (nI c) o0 T3 = _
        unfold L_X2_read_9_step f_X5_size
        rw [ht.2.1, bd_s, if_pos (nI_le (show n ≤ p by omega) (by omega))]
        split <;> rfl
      · show L_X8_readAll_10_step (L_X8_readAll_10 g) o1 = _
        unfold L_X8_readAll_10_step
        rw [ht1.2.2.1, hp, if_pos (nI_le (show n ≤ p by omega) (by omega))]
    | succ d ih =>
      intro p c f g o0 T3 o1 w h1 h2 h3 hf hg ht1 hp hT hM hw
      rcases Nat.lt_or_ge p n with hpn | hpn
      · obtain ⟨f, rfl⟩ : ∃ k, f = k + 1 := ⟨f - 1, by omega⟩
        obtain ⟨g, rfl⟩ : ∃ k, g = k + 1 := ⟨g - 1, by omega⟩
        have st : L_X8_readAll_10 (g + 1) o1 = bd (f_X8_item o1) (fun z2 => if z2.1 = (0 : Int32) then some (0, nI p, z2.2) else L_X8_readAll_10 g z2.2) := by
          show L_X8_readAll_10_step (L_X8_readAll_10 g) o1 = _
          unfold L_X8_readAll_10_step
          rw [ht1.2.2.1, hp, if_neg (by rw [nI_leI (by omega) (by omega)]; omega), nm_s]
        rw [st]
        rcases item_both (c := c) ht1 hpn (by omega) hT hM hw hp o0 (L_X2_read_9 T f) with ⟨o0', T3', o', u1, u2, u3⟩ | ⟨q, w', o0', T3', o', u1, u2, u3, u4, u5, u6, u7, u8, u9⟩
        · left
          have u1 : L_X2_read_9 T (f + 1) (nI p) (nI c) o0 T3 = some (0, nI p, o0', T3') := u1
          exact ⟨p, o0', T3', o', p, hpn, u1, by rw [u2]; rfl, u3, rfl⟩
        · have u1 : L_X2_read_9 T (f + 1) (nI p) (nI c) o0 T3 = L_X2_read_9 T f (nI q) (nI (c + 1)) o0' T3' := u1
          rw [u1, u2]
          have e : bd (some ((1 : Int32), o')) (fun z2 => if z2.1 = (0 : Int32) then some (0, nI p, z2.2) else L_X8_readAll_10 g z2.2) = L_X8_readAll_10 g o' := by
            rw [bd_s, if_neg (show ¬ (1 : Int32) = 0 by decide)]
          rw [e]
          rcases ih q (c + 1) f g o0' T3' o' w' (by omega) u6 (by omega) (by omega) (by omega) (u3.tx ht1) u4 u7 u8 u9 with ⟨q', a, b, c', x, r0, r1, r2, r3, r4⟩ | ⟨q', a, b, c', w'', r1, r2, r3, r4, r5, r6⟩
          · exact Or.inl ⟨q', a, b, c', x, r0, r1, r2, u3.tr r3, r4⟩
          · exact Or.inr ⟨q', a, b, c', w'', r1, r2, u3.tr r3, r4, r5, r6⟩
      · obtain ⟨f, rfl⟩ : ∃ k, f = k + 1 := ⟨f - 1, by omega⟩
        obtain ⟨g, rfl⟩ : ∃ k, g = k + 1 := ⟨g - 1, by omega⟩
        right
        refine ⟨nI p, o0, T3, o1, w, ?_, ?_, Fr.rf o1, hT, hM, hw⟩
        · show L_X2_read_9_step T (L_X2_read_9 T f) (nI p) (nI c) o0 T3 = _
          unfold L_X2_read_9_step f_X5_size
          rw [ht.2.1, bd_s, if_pos (nI_le (show n ≤ p by omega) (by omega))]
          split <;> rfl
        · show L_X8_readAll_10_step (L_X8_readAll_10 g) o1 = _
          unfold L_X8_readAll_10_step
          rw [ht1.2.2.1, hp, if_pos (nI_le (show n ≤ p by omega) (by omega))]
  -- the two starts
  have es : f_X6_empty T3 = some (sF (sF (sF (sF (sF (sF T3 6 (nI 0)) 7 (nI 0)) 8 (nI 0)) 9 (nI 0)) 10 (nI 0)) 11 (nI 0)) := rfl
  have hT0 : TC (sF (sF (sF (sF (sF (sF T3 6 (nI 0)) 7 (nI 0)) 8 (nI 0)) 9 (nI 0)) 10 (nI 0)) 11 (nI 0)) v0 := ⟨rfl, rfl, rfl, rfl, rfl, rfl, fun k hk => by exact absurd hk (Nat.not_lt_zero k)⟩
  have ems : ∃ o1, f_X8_noTown o (nI 1) = some o1 ∧ Fr o o1 ∧ MB o1 1 1 v0 := by
    refine ⟨sA (sA (sA (sA (sA (sA o 2 1 (nI 0)) 3 1 (nI 0)) 4 1 (nI 0)) 5 1 (nI 0)) 11 1 (nI 0)) 12 1 (nI 0), ?_, ?_, ?_⟩
    · unfold f_X8_noTown
      simp (disch := omega) only [bd_s, nm_s, l_0, l_1, l_2, l_3, l_4, l_5, l_6, l_7, l_8, l_9, l_10, l_16, l_20, l_32, l_44, l_48, l_57, l_59, l_60, l_99, l_100, l_107, l_108, l_112, l_255, l_256, l_300, l_9999, le_nI, lt_nI, eq_nI, cl_nI, ck_nI, gd_d, b2i_z, b2i_o, has_c, has_m, bit_c, within_c, nI_add, if_pos, if_neg, nI_or, nI_and, sh1_nI, pk_sub, gd_ckz]
    · refine (((Fr.sA ?_).tr (Fr.sA ?_)).tr ((Fr.sA ?_).tr (Fr.sA ?_))).tr ((Fr.sA ?_).tr (Fr.sA ?_)) <;> (right; unfold tch; omega)
    · refine ⟨?_, ?_, ?_, ?_, ?_, ?_, fun k hk => by exact absurd hk (Nat.not_lt_zero k)⟩ <;> simp [sA2] <;> rfl
  obtain ⟨o1, n1, n2, n3⟩ := ems
  have n4 : MB (sF o1 20 (nI 0)) 1 1 v0 := n3
  have n5 : Fr o (sF o1 20 (nI 0)) := n2.tr Fr.sF
  unfold f_X2_read f_X8_readAll
  rw [es, bd_s, show (1 : Int32) = nI 1 from rfl, n1, bd_s, nm_s]
  rcases main n 0 0 512 512 o0 _ (sF o1 20 (nI 0)) v0 (by omega) (by omega) (by omega) (by omega) (by omega) (n5.tx ht) rfl hT0 n4 v0_ok with ⟨q, a, b, c, x, r0, r1, r2, r3, r4⟩ | ⟨q, a, b, c, w, r1, r2, r3, r4, r5, r6⟩
  · refine ⟨nI q, a, b, c, ?_, ?_, n5.tr r3, fun e => absurd e (nIn4 (by omega))⟩
    · rw [show (0 : Int32) = nI 0 from rfl, r1]; rfl
    · rw [show (0 : Int32) = nI 0 from rfl, r2]; rfl
  · refine ⟨(-4 : Int32), a, b, c, ?_, ?_, n5.tr r3, fun _ => ⟨w, r4, r5, r6⟩⟩
    · rw [show (0 : Int32) = nI 0 from rfl, r1]; rfl
    · rw [show (0 : Int32) = nI 0 from rfl, r2]; rfl
theorem copy_c {T U : Ob} {v : TV} (hU : TC U v) (hv : TOK v) : ∃ T', f_X6_copy T U = some T' ∧ TC T' v := by
  have h8 := hv.2.2.2.1
  obtain ⟨c0, c1, c2, c3, c4, c5, c6⟩ := hU
  have key := loop_ex (fun n (x : Int32 × Ob) => L_X6_copy_2 U n x.1 x.2) (fun j x => x.1 = nI j ∧ ∀ i k, i < 6 → k < j → x.2.2 i k = U.2 i k) (fun o' => ∀ i k, i < 6 → k < 8 → o'.2 i k = U.2 i k) 8
    (by
      rintro n j ⟨x, o1⟩ hj ⟨hx, h3⟩
      have hx : x = nI j := hx
      subst hx
      have h3 : ∀ i k, i < 6 → k < j → o1.2 i k = U.2 i k := h3
      refine ⟨(nI (j + 1), sA (sA (sA (sA (sA (sA o1 0 j (U.2 0 j)) 1 j (U.2 1 j)) 2 j (U.2 2 j)) 3 j (U.2 3 j)) 4 j (U.2 4 j)) 5 j (U.2 5 j)), ?_, rfl, fun i k hi hk => ?_⟩
      · show L_X6_copy_2_step U (L_X6_copy_2 U n) _ _ = L_X6_copy_2 U n _ _
        unfold L_X6_copy_2_step
        simp (disch := omega) only [bd_s, nm_s, l_0, l_1, l_2, l_3, l_4, l_5, l_6, l_7, l_8, l_9, l_10, l_16, l_20, l_32, l_44, l_48, l_57, l_59, l_60, l_99, l_100, l_107, l_108, l_112, l_255, l_256, l_300, l_9999, le_nI, lt_nI, eq_nI, cl_nI, ck_nI, gd_d, b2i_z, b2i_o, has_c, has_m, bit_c, within_c, nI_add, if_pos, if_neg, nI_or, nI_and, sh1_nI, pk_sub, gd_ckz]
      · show (sA (sA (sA (sA (sA (sA o1 0 j (U.2 0 j)) 1 j (U.2 1 j)) 2 j (U.2 2 j)) 3 j (U.2 3 j)) 4 j (U.2 4 j)) 5 j (U.2 5 j)).2 i k = _
        by_cases q : k = j
        · have : i = 0 ∨ i = 1 ∨ i = 2 ∨ i = 3 ∨ i = 4 ∨ i = 5 := by omega
          rcases this with rfl | rfl | rfl | rfl | rfl | rfl <;> simp [sA2, q]
        · simp [sA2, q]
          exact h3 i k hi (by have : k < j + 1 := hk; omega))
    (by
      rintro n ⟨x, o1⟩ ⟨hx, h3⟩
      have hx : x = nI 8 := hx
      subst hx
      refine ⟨o1, ?_, h3⟩
      show L_X6_copy_2_step U (L_X6_copy_2 U n) _ _ = _
      unfold L_X6_copy_2_step
      simp (disch := omega) only [bd_s, nm_s, l_0, l_1, l_2, l_3, l_4, l_5, l_6, l_7, l_8, l_9, l_10, l_16, l_20, l_32, l_44, l_48, l_57, l_59, l_60, l_99, l_100, l_107, l_108, l_112, l_255, l_256, l_300, l_9999, le_nI, lt_nI, eq_nI, cl_nI, ck_nI, gd_d, b2i_z, b2i_o, has_c, has_m, bit_c, within_c, nI_add, if_pos, if_neg, nI_or, nI_and, sh1_nI, pk_sub, gd_ckz]) 8 0 (nI 0, T) 512 rfl (by omega) ⟨rfl, fun i k _ hk => by omega⟩
  obtain ⟨T', k1, k2⟩ := key
  have k1 : L_X6_copy_2 U 512 (0 : Int32) T = some T' := k1
  refine ⟨sF (sF (sF (sF (sF (sF T' 6 (U.1 6)) 7 (U.1 7)) 8 (U.1 8)) 9 (U.1 9)) 10 (U.1 10)) 11 (U.1 11), ?_, c0, c1, c2, c3, c4, c5, fun k hk => ?_⟩
  · unfold f_X6_copy
    rw [k1]; rfl
  · show T'.2 0 k = _ ∧ T'.2 1 k = _ ∧ T'.2 2 k = _ ∧ T'.2 3 k = _ ∧ T'.2 4 k = _ ∧ T'.2 5 k = _
    rw [k2 0 k (by omega) (by omega), k2 1 k (by omega) (by omega), k2 2 k (by omega) (by omega), k2 3 k (by omega) (by omega), k2 4 k (by omega) (by omega), k2 5 k (by omega) (by omega)]
    exact c6 k hk
theorem copy_m {o : Ob} {s a b : Nat} {v : TV} (hM : MB o s a v) (ha : a < 4) (hb : b < 4) (hab : a ≠ b) (hv : TOK v) : ∃ o', f_X8_copy o (nI a) (nI b) = some o' ∧ MB o' s b v ∧ FB b o o' := by
  have h8 := hv.2.2.2.1
  obtain ⟨c0, c1, c2, c3, c4, c5, c6⟩ := hM
  have key := loop_ex (fun n (x : Int32 × Ob) => L_X8_copy_38 (nI a) (nI b) n x.1 x.2) (fun j x => x.1 = nI j ∧ FB b (sA (sA (sA o 5 b (o.2 5 a)) 11 b (o.2 11 a)) 12 b (o.2 12 a)) x.2 ∧ x.2.2 5 b = o.2 5 a ∧ x.2.2 11 b = o.2 11 a ∧ x.2.2 12 b = o.2 12 a ∧ ∀ i k, 6 ≤ i → i ≤ 10 → k < j → x.2.2 i (8 * b + k) = o.2 i (8 * a + k)) (fun o' => FB b (sA (sA (sA o 5 b (o.2 5 a)) 11 b (o.2 11 a)) 12 b (o.2 12 a)) o' ∧ o'.2 5 b = o.2 5 a ∧ o'.2 11 b = o.2 11 a ∧ o'.2 12 b = o.2 12 a ∧ ∀ i k, 6 ≤ i → i ≤ 10 → k < 8 → o'.2 i (8 * b + k) = o.2 i (8 * a + k)) 8
    (by
      rintro n j ⟨x, o1⟩ hj ⟨hx, hf, g1, g2, g3, h3⟩
      have hx : x = nI j := hx
      subst hx
      have hf : FB b (sA (sA (sA o 5 b (o.2 5 a)) 11 b (o.2 11 a)) 12 b (o.2 12 a)) o1 := hf
      have h3 : ∀ i k, 6 ≤ i → i ≤ 10 → k < j → o1.2 i (8 * b + k) = o.2 i (8 * a + k) := h3
      have src : ∀ i, 6 ≤ i → i ≤ 10 → o1.2 i (8 * a + j) = o.2 i (8 * a + j) := fun i h1 h2 => by
        rw [hf.2 i _ (by unfold tcb; omega)]
        rw [sA2, if_neg (by omega), sA2, if_neg (by omega), sA2, if_neg (by omega)]
      have e6 := src 6 (by omega) (by omega)
      have e7 := src 7 (by omega) (by omega)
      have e8 := src 8 (by omega) (by omega)
      have e9 := src 9 (by omega) (by omega)
      have e10 := src 10 (by omega) (by omega)
      refine ⟨(nI (j + 1), sA (sA (sA (sA (sA o1 6 (8 * b + j) (o.2 6 (8 * a + j))) 7 (8 * b + j) (o.2 7 (8 * a + j))) 8 (8 * b + j) (o.2 8 (8 * a + j))) 9 (8 * b + j) (o.2 9 (8 * a + j))) 10 (8 * b + j) (o.2 10 (8 * a + j))), ?_, rfl, ?_, ?_, ?_, ?_, fun i k h1 h2 hk => ?_⟩
      · show L_X8_copy_38_step (nI a) (nI b) (L_X8_copy_38 (nI a) (nI b) n) _ _ = L_X8_copy_38 (nI a) (nI b) n _ _
        unfold L_X8_copy_38_step
        simp (disch := omega) only [bd_s, nm_s, l_0, l_1, l_2, l_3, l_4, l_5, l_6, l_7, l_8, l_9, l_10, l_16, l_20, l_32, l_44, l_48, l_57, l_59, l_60, l_99, l_100, l_107, l_108, l_112, l_255, l_256, l_300, l_9999, le_nI, lt_nI, eq_nI, cl_nI, ck_nI, gd_d, b2i_z, b2i_o, has_c, has_m, bit_c, within_c, nI_add, if_pos, if_neg, nI_or, nI_and, sh1_nI, pk_sub, gd_ckz, pk_mul, sA2, Nat.reduceEqDiff, false_and, ↓reduceIte, e6, e7, e8, e9, e10]
      · refine ((((hf.tr (FB.sA ?_)).tr (FB.sA ?_)).tr (FB.sA ?_)).tr (FB.sA ?_)).tr (FB.sA ?_) <;> unfold tcb <;> omega
      · simpa [sA2] using g1
      · simpa [sA2] using g2
      · simpa [sA2] using g3
      · show (sA (sA (sA (sA (sA o1 6 (8 * b + j) (o.2 6 (8 * a + j))) 7 (8 * b + j) (o.2 7 (8 * a + j))) 8 (8 * b + j) (o.2 8 (8 * a + j))) 9 (8 * b + j) (o.2 9 (8 * a + j))) 10 (8 * b + j) (o.2 10 (8 * a + j))).2 i (8 * b + k) = _
        by_cases q : k = j
        · have : i = 6 ∨ i = 7 ∨ i = 8 ∨ i = 9 ∨ i = 10 := by omega
          rcases this with rfl | rfl | rfl | rfl | rfl <;> simp [sA2, q]
        · have hne : ¬ 8 * b + k = 8 * b + j := by omega
          simp only [sA2, hne, and_false, if_false]
          exact h3 i k h1 h2 (by have : k < j + 1 := hk; omega))
    (by
      rintro n ⟨x, o1⟩ ⟨hx, h3⟩
      have hx : x = nI 8 := hx
      subst hx
      refine ⟨o1, ?_, h3⟩
      show L_X8_copy_38_step (nI a) (nI b) (L_X8_copy_38 (nI a) (nI b) n) _ _ = _
      unfold L_X8_copy_38_step
      simp (disch := omega) only [bd_s, nm_s, l_0, l_1, l_2, l_3, l_4, l_5, l_6, l_7, l_8, l_9, l_10, l_16, l_20, l_32, l_44, l_48, l_57, l_59, l_60, l_99, l_100, l_107, l_108, l_112, l_255, l_256, l_300, l_9999, le_nI, lt_nI, eq_nI, cl_nI, ck_nI, gd_d, b2i_z, b2i_o, has_c, has_m, bit_c, within_c, nI_add, if_pos, if_neg, nI_or, nI_and, sh1_nI, pk_sub, gd_ckz]) 8 0 (nI 0, sA (sA (sA o 5 b (o.2 5 a)) 11 b (o.2 11 a)) 12 b (o.2 12 a)) 512 rfl (by omega) ⟨rfl, FB.rf b _, by simp [sA2], by simp [sA2], by simp [sA2], fun i k _ _ hk => by omega⟩
  obtain ⟨o', k1, k2, k3, k4, k5, k6⟩ := key
  have k1 : L_X8_copy_38 (nI a) (nI b) 512 (nI 0) (sA (sA (sA o 5 b (o.2 5 a)) 11 b (o.2 11 a)) 12 b (o.2 12 a)) = some o' := k1
  have fr : FB b o o' := (((FB.sA (by unfold tcb; omega)).tr (FB.sA (by unfold tcb; omega))).tr (FB.sA (by unfold tcb; omega))).tr k2
  refine ⟨o', ?_, ⟨?_, ?_, ?_, k3.trans c3, k4.trans c4, k5.trans c5, fun k hk => ?_⟩, fr⟩
  · unfold f_X8_copy
    simp (disch := omega) only [bd_s, nm_s, l_0, l_1, l_2, l_3, l_4, l_5, l_6, l_7, l_8, l_9, l_10, l_16, l_20, l_32, l_44, l_48, l_57, l_59, l_60, l_99, l_100, l_107, l_108, l_112, l_255, l_256, l_300, l_9999, le_nI, lt_nI, eq_nI, cl_nI, ck_nI, gd_d, b2i_z, b2i_o, has_c, has_m, bit_c, within_c, nI_add, if_pos, if_neg, nI_or, nI_and, sh1_nI, pk_sub, gd_ckz, sA2, Nat.reduceEqDiff, false_and, ↓reduceIte, k1]
  · rw [fr.2 2 s (by unfold tcb; omega)]; exact c0
  · rw [fr.2 3 s (by unfold tcb; omega)]; exact c1
  · rw [fr.2 4 s (by unfold tcb; omega)]; exact c2
  · rw [k6 6 k (by omega) (by omega) (by omega), k6 7 k (by omega) (by omega) (by omega), k6 8 k (by omega) (by omega) (by omega), k6 9 k (by omega) (by omega) (by omega), k6 10 k (by omega) (by omega) (by omega)]
    exact c6 k hk
