/-! ===== the relation (own text) ===== -/
def RW (T : Ob) (a : Int32) (b : Nat → Int32) (nk rn : Nat) (R : Nat → Nat) : Prop := rn ≤ 8 ∧ T.1 1 = nI rn ∧ a = nI rn ∧ (∀ i, i < rn → R i < nk ∧ T.2 0 i = nI (R i) ∧ b i = nI (R i)) ∧ ∀ i j, i < j → j < rn → R i ≠ R j
def RP (T : Ob) (a : Int32) (b : Nat → Int32) (nk pn : Nat) (K S D : Nat → Nat) : Prop := pn ≤ 8 ∧ T.1 3 = nI pn ∧ a = nI pn ∧ (∀ i, i < pn → (T.2 0 i = nI (K i) ∧ T.2 1 i = nI (S i) ∧ T.2 2 i = nI (D i)) ∧ (b (3 * i) = nI (K i) ∧ b (3 * i + 1) = nI (S i) ∧ b (3 * i + 2) = nI (D i)) ∧ 1 ≤ K i ∧ K i ≤ nk ∧ S i < 2 ^ K i ∧ D i ≤ 99) ∧ ∀ i j, i ≤ j → j < pn → K i ≤ K j
def RK (A B C o : Ob) (v : TV) (kn : Nat) (U : Nat → TV) : Prop := kn ≤ 2 ∧ C.1 6 = nI kn ∧ o.1 13 = nI kn ∧ (∀ i, i < kn → ((U i).1 0 = v.1 0 ∧ (U i).1 1 = v.1 1 ∧ (U i).1 2 = v.1 2) ∧ TOK (U i) ∧ 1 ≤ (U i).1 3 ∧ MB o 0 (2 + i) (U i)) ∧ (0 < kn → TC A (U 0)) ∧ (1 < kn → TC B (U 1))
def RT (T o : Ob) (v : TV) : Prop := TC T v ∧ MB o 0 0 v ∧ TOK v ∧ 1 ≤ v.1 3
def Rl (X : Nat → Ob) (o : Ob) : Prop := ∃ v, RT (X 2) o v ∧ (∃ n B, TX (X 0) o n B) ∧ (∃ m W, RR 0 (X 10) (o.2 18) (o.2 19) m W) ∧ (∃ m W, RR 1 (X 11) (o.2 18) (o.2 19) m W) ∧ (∃ rn R, RW (X 9) (o.1 16) (o.2 17) (v.1 3) rn R) ∧ (∃ pn K S D, RP (X 7) (o.1 14) (o.2 15) (v.1 3) pn K S D) ∧ ∃ kn U, RK (X 4) (X 5) (X 6) o v kn U
theorem MB.fr {o o' : Ob} {b : Nat} {v : TV} (h : Fr o o') (hb : b ≠ 1) (h8 : v.1 3 ≤ 8) (hm : MB o 0 b v) : MB o' 0 b v := by
  unfold MB at hm ⊢
  have e := h.2
  rw [e 2 0 (by omega) (by unfold tch; omega), e 3 0 (by omega) (by unfold tch; omega), e 4 0 (by omega) (by unfold tch; omega), e 5 b (by omega) (by unfold tch; omega), e 11 b (by omega) (by unfold tch; omega), e 12 b (by omega) (by unfold tch; omega)]
  refine ⟨hm.1, hm.2.1, hm.2.2.1, hm.2.2.2.1, hm.2.2.2.2.1, hm.2.2.2.2.2.1, fun k hk => ?_⟩
  rw [e 6 _ (by omega) (by unfold tch; omega), e 7 _ (by omega) (by unfold tch; omega), e 8 _ (by omega) (by unfold tch; omega), e 9 _ (by omega) (by unfold tch; omega), e 10 _ (by omega) (by unfold tch; omega)]
  exact hm.2.2.2.2.2.2 k hk
theorem Fr.whole {o o' : Ob} (h : Fr o o') {i : Nat} (h1 : i < 21) (h2 : ∀ j, ¬ tch i j) : o'.2 i = o.2 i := funext (fun j => h.2 i j h1 (h2 j))
theorem Same.fr {o o' : Ob} (h : Same o o') : Fr o o' := ⟨fun i _ => by rw [h.1], fun i j hi _ => by rw [h.2 i hi]⟩
theorem RK.fr {A B C o o' : Ob} {v : TV} {kn : Nat} {U : Nat → TV} (h : Fr o o') (hk : RK A B C o v kn U) : RK A B C o' v kn U := by
  obtain ⟨a1, a2, a3, a4, a5, a6⟩ := hk
  exact ⟨a1, a2, (h.1 13 (by omega)).trans a3, fun i hi => ⟨(a4 i hi).1, (a4 i hi).2.1, (a4 i hi).2.2.1, (a4 i hi).2.2.2.fr h (by omega) (a4 i hi).2.1.2.2.2.1⟩, a5, a6⟩
theorem Rl.fr {X X' : Nat → Ob} {o o' : Ob} (h : Rl X o) (hX : ∀ j, j ≠ 1 → j ≠ 3 → j ≠ 8 → X' j = X j) (hf : Fr o o') : Rl X' o' := by
  obtain ⟨v, ⟨t1, t2, t3, t4⟩, ⟨n, B, h0⟩, h1, h2, h3, h4, ⟨kn, U, h5⟩⟩ := h
  refine ⟨v, ?_, ?_, ?_, ?_, ?_, ?_, ?_⟩
  · rw [hX 2 (by omega) (by omega) (by omega)]
    exact ⟨t1, t2.fr hf (by omega) t3.2.2.2.1, t3, t4⟩
  · rw [hX 0 (by omega) (by omega) (by omega)]
    exact ⟨n, B, hf.tx h0⟩
  · rw [hX 10 (by omega) (by omega) (by omega), hf.whole (i := 18) (by omega) (fun j => by unfold tch; omega), hf.whole (i := 19) (by omega) (fun j => by unfold tch; omega)]
    exact h1
  · rw [hX 11 (by omega) (by omega) (by omega), hf.whole (i := 18) (by omega) (fun j => by unfold tch; omega), hf.whole (i := 19) (by omega) (fun j => by unfold tch; omega)]
    exact h2
  · rw [hX 9 (by omega) (by omega) (by omega), hf.1 16 (by omega), hf.whole (i := 17) (by omega) (fun j => by unfold tch; omega)]
    exact h3
  · rw [hX 7 (by omega) (by omega) (by omega), hf.1 14 (by omega), hf.whole (i := 15) (by omega) (fun j => by unfold tch; omega)]
    exact h4
  · rw [hX 4 (by omega) (by omega) (by omega), hX 5 (by omega) (by omega) (by omega), hX 6 (by omega) (by omega) (by omega)]
    exact ⟨kn, U, h5.fr hf⟩
theorem RT.m {T o : Ob} {v : TV} (h : RT T o v) : M0 o v := MB.zero.mp h.2.1
/-! what only looks -/
theorem s_loosen : Sim_loosen Rl := fun X o h x => by
  obtain ⟨v, ht, -⟩ := id h
  obtain ⟨r, o', a, b, c⟩ := loosen_both ht.1 ht.m ht.2.2.1 x
  exact ⟨r, o', a, b, h.fr (fun _ _ _ _ => rfl) c.fr⟩
theorem s_pay : Sim_pay Rl := fun X o h x => by
  obtain ⟨v, ht, -⟩ := id h
  obtain ⟨r, o', a, b, c⟩ := pay_both ht.1 ht.m ht.2.2.1 x
  exact ⟨r, o', a, b, h.fr (fun _ _ _ _ => rfl) c.fr⟩
theorem s_forEver : Sim_forEver Rl := fun X o h => by
  obtain ⟨v, ht, -⟩ := id h
  obtain ⟨r, o', a, b, c⟩ := forEver_both ht.1 ht.m ht.2.2.1
  exact ⟨r, o', a, b, h.fr (fun _ _ _ _ => rfl) c.fr⟩
theorem s_frees : Sim_frees Rl := fun X o h x => by
  obtain ⟨v, ht, -⟩ := id h
  obtain ⟨r, o', a, b, c⟩ := frees_both ht.1 ht.m ht.2.2.1 x
  exact ⟨r, o', a, b, h.fr (fun _ _ _ _ => rfl) c.fr⟩
theorem s_fresh : Sim_fresh Rl := fun X o h x y w => by
  obtain ⟨v, ht, -⟩ := id h
  obtain ⟨r, a, b⟩ := fresh_both ht.1 ht.m ht.2.2.1 x y w
  exact ⟨r, a, b, h⟩
theorem s_orders : Sim_orders Rl := fun X o h => by
  obtain ⟨v, ht, -⟩ := id h
  obtain ⟨r, T, o', a, b, c⟩ := orders_both ht.1 ht.m ht.2.2.1
  refine ⟨r, _, o', a, b, h.fr (fun j _ _ h8 => ?_) c.fr⟩
  show (if j = 8 then T else X j) = _
  rw [if_neg h8]
theorem s_year : Sim_year Rl := fun X o h x y w => by
  obtain ⟨v, ht, -⟩ := id h
  obtain ⟨r, a, b⟩ := year_both ht.1 ht.m ht.2.2.1 ht.2.2.2 x y w
  exact ⟨r, a, b, h⟩
theorem s_alike : Sim_alike Rl := fun X o h => by
  obtain ⟨v, ht, -, ⟨m, W, h0⟩, ⟨m', W', h1⟩, -⟩ := id h
  obtain ⟨r, o', a, b, c⟩ := alike_both h0 h1
  exact ⟨r, o', a, b, h.fr (fun _ _ _ _ => rfl) c.fr⟩
theorem rope2 {x : Int32} (h : inb x 2 = true) : x = 0 ∨ x = 1 := by
  obtain ⟨k, hk, rfl⟩ := inb_of (by omega) h
  have : k = 0 ∨ k = 1 := by omega
  rcases this with rfl | rfl
  · exact Or.inl rfl
  · exact Or.inr rfl
theorem s_loose : Sim_loose Rl := fun X o h x y => by
  obtain ⟨v, ht, -, ⟨m, W, h0⟩, ⟨m', W', h1⟩, -⟩ := id h
  unfold f_X7_loose f_X8_loose
  rw [rope_c, rope_m, bd_s, bd_s]
  cases q : inb x 2
  · exact ⟨(-1 : Int32), o, rfl, rfl, h⟩
  · rw [if_neg (show ¬ b2i true = (0 : Int32) by decide), if_neg (show ¬ b2i true = (0 : Int32) by decide)]
    by_cases q2 : (-1 : Int32) ≤ y
    · rw [if_pos q2, if_pos q2]
      rcases rope2 q with rfl | rfl
      · obtain ⟨z, o', a, b, c⟩ := loose_both (r := 0) (by omega) h0 y q2
        exact ⟨z, o', a, b, h.fr (fun _ _ _ _ => rfl) c.fr⟩
      · obtain ⟨z, o', a, b, c⟩ := loose_both (r := 1) (by omega) h1 y q2
        exact ⟨z, o', a, b, h.fr (fun _ _ _ _ => rfl) c.fr⟩
    · rw [if_neg q2, if_neg q2]
      exact ⟨(-1 : Int32), o, rfl, rfl, h⟩
theorem lt_c {α : Type} (x : Int32) (N : Nat) (hN : N < 1000000) (A C : α) : (if x < (0 : Int32) then A else if x < nI N then C else A) = if inb x N = true then C else A := by
  by_cases q : x < 0
  · rw [if_pos q, inb_neg q]; rfl
  · obtain ⟨k, hk, rfl⟩ := nI_of q
    rw [if_neg q, inb_nI (by omega)]
    by_cases q2 : k < N
    · rw [if_pos ((nI_ltI (by omega) (by omega)).mpr q2), if_pos (by simp; omega)]
    · rw [if_neg (fun e => q2 ((nI_ltI (by omega) (by omega)).mp e)), if_neg (by simp; omega)]
theorem s_mark : Sim_mark Rl := fun X o h x y => by
  obtain ⟨v, ht, -, ⟨m, W, h0⟩, ⟨m', W', h1⟩, -⟩ := id h
  unfold f_X7_mark f_X8_mark
  rw [rope_c, rope_m, bd_s, bd_s, rng_m y 3 (by omega) 3 (by decide), l_4, lt_c y 4 (by omega)]
  cases q : inb x 2
  · exact ⟨(-1 : Int32), rfl, rfl, h⟩
  · rw [if_neg (show ¬ b2i true = (0 : Int32) by decide), if_neg (show ¬ b2i true = (0 : Int32) by decide), bd_s]
    cases q2 : inb y 4
    · exact ⟨(-1 : Int32), rfl, rfl, h⟩
    · obtain ⟨k, hk, rfl⟩ := inb_of (by omega) q2
      rw [if_pos rfl, if_neg (show ¬ b2i true = (0 : Int32) by decide)]
      rcases rope2 q with rfl | rfl
      · obtain ⟨z, a, b⟩ := mark_both (r := 0) (by omega) h0 hk
        refine ⟨(100 : Int32) + z, ?_, ?_, h⟩
        · show bd (f_X3_markOf (X 10) (nI k)) (fun z4 => some ((100 : Int32) + z4)) = _
          rw [a]; rfl
        · have b : L_X8_mark_30 (0 : Int32) (nI k) o 512 (100 : Int32) (0 : Int32) = some ((100 : Int32) + z) := b
          rw [b]; rfl
      · obtain ⟨z, a, b⟩ := mark_both (r := 1) (by omega) h1 hk
        refine ⟨(100 : Int32) + z, ?_, ?_, h⟩
        · show bd (f_X3_markOf (X 11) (nI k)) (fun z4 => some ((100 : Int32) + z4)) = _
          rw [a]; rfl
        · have b : L_X8_mark_30 (1 : Int32) (nI k) o 512 (100 : Int32) (0 : Int32) = some ((100 : Int32) + z) := b
          rw [b]; rfl
theorem s_fault : Sim_fault Rl := fun X o h => by
  obtain ⟨v, ht, ⟨n, B, h0⟩, -⟩ := id h
  obtain ⟨z, a, T3, o', c1, c2, c3, -⟩ := read_both h0 (X 3) (X 1)
  refine ⟨z, sX (sX X 1 a) 3 T3, o', ?_, ?_, h.fr (fun j h1 h3 h8 => ?_) c3⟩
  · unfold f_X7_fault
    rw [c1]; rfl
  · unfold f_X8_fault
    rw [c2]; rfl
  · show (if j = 3 then T3 else if j = 1 then a else X j) = _
    rw [if_neg h3, if_neg h1]
