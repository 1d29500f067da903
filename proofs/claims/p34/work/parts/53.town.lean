/-! ===== the town of the cells (own text) ===== -/
theorem nI_all (x : Int32) : nI x.toBitVec.toNat = x := by
  apply Int32.toBitVec_inj.1
  show BitVec.ofNat 32 _ = _
  rw [BitVec.ofNat_toNat, BitVec.setWidth_eq]
theorem andm (x : Int32) (m : Nat) : ∃ j, j ≤ m ∧ x &&& nI m = nI j := by
  refine ⟨x.toBitVec.toNat &&& m, Nat.and_le_right, ?_⟩
  rw [← nI_and, nI_all]
theorem some_ok (x : Int32) {N : Nat} (h0 : 0 < N) (hN : N < 2147483648) : ∃ k, k < N ∧ f_L_some x (nI N) = some (nI k) := by
  obtain ⟨a, ha, e⟩ := andm x 2147483647
  refine ⟨a % N, Nat.mod_lt _ h0, ?_⟩
  unfold f_L_some
  rw [gd_d (show ¬ nI N = (0 : Int32) from fun c => by rw [l_0, nI_eq (by omega) (by omega)] at c; omega)]
  rw [show (2147483647 : Int32) = nI 2147483647 from rfl, e, pk_rem (by omega) h0 hN]
theorem cell_ok {sL : Nat} (hL : sL ≤ 260) (sxs : Nat → Int32) {k : Nat} (hk : k < 1000) : ∃ r, f_L_cell sL sxs (nI k) = some r := by
  unfold f_L_cell
  rw [show Int32.ofNat sL = nI sL from rfl]
  by_cases q : k < sL
  · rw [if_pos (nI_lt q (by omega)), ck_nI (by omega), decide_eq_true q]
    exact ⟨_, rfl⟩
  · rw [if_neg (nI_nlt (show sL ≤ k by omega) (by omega))]
    exact ⟨_, rfl⟩
theorem up_e (f : Nat → Int32) (k : Nat) (x : Int32) : upd f k x k = x := if_pos rfl
theorem up_n {f : Nat → Int32} {k j : Nat} {x : Int32} (h : j ≠ k) : upd f k x j = f j := if_neg h
theorem ad4 (k : Nat) : (4 : Int32) + nI k = nI (4 + k) := nI_add 4 k
theorem ad12 (k : Nat) : (12 : Int32) + nI k = nI (12 + k) := nI_add 12 k
theorem ad20 (k : Nat) : (20 : Int32) + nI k = nI (20 + k) := nI_add 20 k
theorem ad28 (k : Nat) : (28 : Int32) + nI k = nI (28 + k) := nI_add 28 k
theorem ad36 (k : Nat) : (36 : Int32) + nI k = nI (36 + k) := nI_add 36 k
theorem adp1 (k : Nat) : nI k + (1 : Int32) = nI (k + 1) := nI_add k 1
theorem ck46 {k : Nat} (h : k < 46) : ck (nI k) 46 = true := by rw [ck_nI (by omega), decide_eq_true h]
/-- so far told: these items, that town; the cells of the array that matter -/
def KS (b0 b3 i k : Nat) (X : Nat → Ob) (B : Nat → Int32) (its : List It) (w : TV) : Prop := TL (X 0) (tkS its) ∧ RX X ∧ Ch v0 its w ∧ w.1 0 = i ∧ w.1 3 = k ∧ its.length = 1 + i + k ∧ B 0 = nI b0 ∧ B 3 = nI b3
theorem KS.len {b0 b3 i k : Nat} {X : Nat → Ob} {B : Nat → Int32} {its : List It} {w : TV} (h : KS b0 b3 i k X B its w) (hi : i ≤ 5) (hk : k ≤ 6) : (tkS its).length + 16 ≤ 300 := by
  have := tkS_len its h.2.2.1
  have := h.2.2.2.2.2.1
  omega
theorem person_ok {b0 b3 i : Nat} {X : Nat → Ob} {B : Nat → Int32} {its : List It} {w : TV} (h : KS b0 b3 i 0 X B its w) (hi : i < 5) {lv : Nat} (hl : lv ≤ 1) {B' : Nat → Int32} (h0 : B' 0 = B 0) (h3 : B' 3 = B 3) : ∃ X' its' w', f_L_item X (112 : Int32) (1 : Int32) (nI lv) (0 : Int32) (0 : Int32) (0 : Int32) (0 : Int32) = some ((1 : Int32), X') ∧ KS b0 b3 (i + 1) 0 X' B' its' w' := by
  have hn := h.len (by omega) (by omega)
  obtain ⟨a1, a2, a3, a4, a5, a6, a7, a8⟩ := h
  obtain ⟨X', c1, c2, c3⟩ := item_ok a1 a2 (c := 112) (m := 1) (by omega) (by omega) (xs := fun i => if i = 0 then lv else 0) (fun i _ => by show (if i = 0 then lv else 0) < 100; split <;> omega) hn
  refine ⟨X', its ++ [(112, 1, fun i => if i = 0 then lv else 0)], vP w lv, c1, by rw [tkS_snoc]; exact c2, c3, ?_, ?_, a5, by rw [List.length_append, a6]; rfl, h0.trans a7, h3.trans a8⟩
  · exact Ch.snoc its a3 (t := (112, 1, fun i => if i = 0 then lv else 0)) (Or.inr (Or.inl ⟨rfl, rfl, hl, by rw [a4]; omega⟩))
  · show w.1 0 + 1 = i + 1
    rw [a4]
theorem persons_ok (sL : Nat) (sxs : Nat → Int32) (x2 x4 : Int32) {b0 b3 : Nat} (h5 : b0 ≤ 5) : ∀ (d i f : Nat) (X : Nat → Ob) (B : Nat → Int32) (its : List It) (w : TV), i + d = b0 → d < f → KS b0 b3 i 0 X B its w → ∃ X' B' its' w', L_L_town_112 sL sxs x2 x4 f (1 : Int32) (nI i) X B = some ((1 : Int32), X', B') ∧ KS b0 b3 b0 0 X' B' its' w' := by
  intro d
  induction d with
  | zero =>
    intro i f X B its w hi hf h
    obtain ⟨f, rfl⟩ : ∃ k, f = k + 1 := ⟨f - 1, by omega⟩
    have : i = b0 := by omega
    subst this
    refine ⟨X, B, its, w, ?_, h⟩
    show L_L_town_112_step sL sxs x2 x4 (L_L_town_112 sL sxs x2 x4 f) (1 : Int32) (nI i) X B = _
    unfold L_L_town_112_step
    rw [h.2.2.2.2.2.2.1, if_pos (nI_le (Nat.le_refl i) (by omega))]
  | succ d ih =>
    intro i f X B its w hi hf h
    obtain ⟨f, rfl⟩ : ∃ k, f = k + 1 := ⟨f - 1, by omega⟩
    have J : ∀ lv : Nat, lv ≤ 1 → ∃ X' B' its' w', J_L_town_140l112 sL sxs (L_L_town_112 sL sxs x2 x4 f) (nI lv) x2 x4 (1 : Int32) (nI i) X B = some ((1 : Int32), X', B') ∧ KS b0 b3 b0 0 X' B' its' w' := by
      intro lv hlv
      obtain ⟨X1, its1, w1, c1, c2⟩ := person_ok (B' := upd B 1 ((B 1) ||| (nI lv <<< (nI i &&& 31)))) h (by omega) hlv (up_n (by omega)) (up_n (by omega))
      obtain ⟨X', B', its', w', r1, r2⟩ := ih (i + 1) f X1 _ its1 w1 (by omega) (by omega) c2
      refine ⟨X', B', its', w', ?_, r2⟩
      unfold J_L_town_140l112
      rw [nm_s, if_neg (show ¬ (1 : Int32) = (0 : Int32) by decide), c1, bd_s, if_neg (show ¬ (1 : Int32) = (0 : Int32) by decide), adp1, nm_s]
      exact r1
    show ∃ X' B' its' w', L_L_town_112_step sL sxs x2 x4 (L_L_town_112 sL sxs x2 x4 f) (1 : Int32) (nI i) X B = _ ∧ _
    unfold L_L_town_112_step
    rw [h.2.2.2.2.2.2.1, if_neg (nI_ge (show i < b0 by omega) (by omega))]
    by_cases q : (x4 >>> (((9 : Int32) + ((2 : Int32) * nI i)) &&& 31)) &&& (3 : Int32) = (0 : Int32)
    · rw [if_pos q]
      exact J 0 (by omega)
    · rw [if_neg q]
      exact J 1 (by omega)
theorem knot_ok {b0 b3 k : Nat} {X : Nat → Ob} {B : Nat → Int32} {its : List It} {w : TV} (h : KS b0 b3 b0 k X B its w) (h5 : b0 ≤ 5) (hk : k < 6) {a c t d e : Nat} (ha : a < b0) (hc : c < b0) (hac : a ≠ c) (ht : t < 2 ^ k) (hd : d ≤ 99) (he : e ≤ 3) {B' : Nat → Int32} (h0 : B' 0 = B 0) (h3 : B' 3 = B 3) : ∃ X' its' w', f_L_item X (107 : Int32) (5 : Int32) (nI a) (nI c) (nI t) (nI d) (nI e) = some ((1 : Int32), X') ∧ KS b0 b3 b0 (k + 1) X' B' its' w' := by
  have hn := h.len (by omega) (by omega)
  have hp : 2 ^ k ≤ 2 ^ 5 := Nat.pow_le_pow_right (n := 2) (by omega) (by omega)
  obtain ⟨a1, a2, a3, a4, a5, a6, a7, a8⟩ := h
  obtain ⟨X', c1, c2, c3⟩ := item_ok a1 a2 (c := 107) (m := 5) (by omega) (by omega) (xs := fun i => if i = 0 then a else if i = 1 then c else if i = 2 then t else if i = 3 then d else e) (fun i _ => by
    show (if i = 0 then a else if i = 1 then c else if i = 2 then t else if i = 3 then d else e) < 100
    split
    · omega
    · split
      · omega
      · split
        · omega
        · split <;> omega) hn
  refine ⟨X', its ++ [(107, 5, fun i => if i = 0 then a else if i = 1 then c else if i = 2 then t else if i = 3 then d else e)], vK w a c t d e, c1, by rw [tkS_snoc]; exact c2, c3, ?_, a4, ?_, by rw [List.length_append, a6]; rfl, h0.trans a7, h3.trans a8⟩
  · exact Ch.snoc its a3 (t := (107, 5, fun i => if i = 0 then a else if i = 1 then c else if i = 2 then t else if i = 3 then d else e)) (Or.inr (Or.inr ⟨rfl, rfl, by rw [a5]; omega, by rw [a4]; exact ha, by rw [a4]; exact hc, hac, by rw [a5]; exact ht, show t < 100 by omega, hd, he⟩))
  · show w.1 3 + 1 = k + 1
    rw [a5]
theorem J359_ok (sL : Nat) (sxs : Nat → Int32) (x2 : Int32) (self : Int32 → Int32 → (Nat → Ob) → (Nat → Int32) → Option (Int32 × (Nat → Ob) × (Nat → Int32))) {b0 b3 k : Nat} {X : Nat → Ob} {B : Nat → Int32} {its : List It} {w : TV} (h : KS b0 b3 b0 k X B its w) (h5 : b0 ≤ 5) (hk : k < 6) {a c t d e : Nat} (ha : a < b0) (hc : c < b0) (hac : a ≠ c) (ht : t < 2 ^ k) (hd : d ≤ 99) (he : e ≤ 3) (e4 : B (4 + k) = nI a) (e12 : B (12 + k) = nI c) (e20 : B (20 + k) = nI t) (e28 : B (28 + k) = nI d) :
    ∃ X' its' w', J_L_town_359l190 sL sxs self ((36 : Int32) + nI k) (nI e) x2 (1 : Int32) (nI k) X B = self (1 : Int32) (nI (k + 1)) X' (upd B (36 + k) (nI e)) ∧ KS b0 b3 b0 (k + 1) X' (upd B (36 + k) (nI e)) its' w' := by
  obtain ⟨X', its', w', c1, c2⟩ := knot_ok (B' := upd B (36 + k) (nI e)) h h5 hk ha hc hac ht hd he (up_n (by omega)) (up_n (by omega))
  refine ⟨X', its', w', ?_, c2⟩
  unfold J_L_town_359l190
  rw [ad36, ad28, ad20, ad12, ad4, ck46 (show 36 + k < 46 by omega), ck46 (show 28 + k < 46 by omega), ck46 (show 20 + k < 46 by omega), ck46 (show 12 + k < 46 by omega), ck46 (show 4 + k < 46 by omega), cl_nI (show 36 + k < 2147483648 by omega), cl_nI (show 28 + k < 2147483648 by omega), cl_nI (show 20 + k < 2147483648 by omega), cl_nI (show 12 + k < 2147483648 by omega), cl_nI (show 4 + k < 2147483648 by omega), gd_t, nm_s, if_neg (show ¬ (1 : Int32) = (0 : Int32) by decide), gd_t, gd_t, gd_t, gd_t, gd_t, up_n (show 4 + k ≠ 36 + k by omega), up_n (show 12 + k ≠ 36 + k by omega), up_n (show 20 + k ≠ 36 + k by omega), up_n (show 28 + k ≠ 36 + k by omega), up_e, e4, e12, e20, e28, c1, bd_s, if_neg (show ¬ (1 : Int32) = (0 : Int32) by decide), adp1, nm_s]
theorem J293_ok (sL : Nat) (sxs : Nat → Int32) (x2 x7 : Int32) (self : Int32 → Int32 → (Nat → Ob) → (Nat → Int32) → Option (Int32 × (Nat → Ob) × (Nat → Int32))) {b0 b3 k : Nat} {X : Nat → Ob} {B : Nat → Int32} {its : List It} {w : TV} (h : KS b0 b3 b0 k X B its w) (h5 : b0 ≤ 5) (hk : k < 6) {a c t : Nat} (ha : a < b0) (hc : c < b0) (hac : a ≠ c) (ht : t < 2 ^ k) (e4 : B (4 + k) = nI a) (e12 : B (12 + k) = nI c) :
    ∃ X' B' its' w', J_L_town_293l190 sL sxs self ((20 : Int32) + nI k) (nI t) x2 (1 : Int32) (nI k) x7 X B = self (1 : Int32) (nI (k + 1)) X' B' ∧ KS b0 b3 b0 (k + 1) X' B' its' w' := by
  have J3 : ∀ (N : Nat), 0 < N → N ≤ 100 → ∃ X' B' its' w', J_L_town_320l190 sL sxs self ((28 : Int32) + nI k) (x7 >>> ((13 : Int32) &&& 31)) (nI N) x2 (1 : Int32) (nI k) x7 X (upd B (20 + k) (nI t)) = self (1 : Int32) (nI (k + 1)) X' B' ∧ KS b0 b3 b0 (k + 1) X' B' its' w' := by
    intro N h0 hN
    obtain ⟨d, hd, c1⟩ := some_ok (x7 >>> ((13 : Int32) &&& 31)) h0 (by omega)
    have J : ∀ e : Nat, e ≤ 3 → ∃ X' B' its' w', J_L_town_359l190 sL sxs self ((36 : Int32) + nI k) (nI e) x2 (1 : Int32) (nI k) X (upd (upd B (20 + k) (nI t)) (28 + k) (nI d)) = self (1 : Int32) (nI (k + 1)) X' B' ∧ KS b0 b3 b0 (k + 1) X' B' its' w' := by
      intro e he
      have h' : KS b0 b3 b0 k X (upd (upd B (20 + k) (nI t)) (28 + k) (nI d)) its w := by
        obtain ⟨a1, a2, a3, a4, a5, a6, a7, a8⟩ := h
        exact ⟨a1, a2, a3, a4, a5, a6, by rw [up_n (by omega), up_n (by omega)]; exact a7, by rw [up_n (by omega), up_n (by omega)]; exact a8⟩
      obtain ⟨X', its', w', r1, r2⟩ := J359_ok sL sxs x2 self h' h5 hk ha hc hac ht (d := d) (by omega) he (by rw [up_n (by omega), up_n (by omega)]; exact e4) (by rw [up_n (by omega), up_n (by omega)]; exact e12) (by rw [up_n (by omega), up_e]) (up_e _ _ _)
      exact ⟨X', _, its', w', r1, r2⟩
    unfold J_L_town_320l190
    rw [c1, bd_s, ad28, ck46 (show 28 + k < 46 by omega), cl_nI (show 28 + k < 2147483648 by omega), gd_t, nm_s]
    by_cases q : (x7 >>> ((20 : Int32) &&& 31)) &&& (1 : Int32) = (0 : Int32)
    · rw [if_pos q]
      obtain ⟨e, he, c2⟩ := some_ok (x7 >>> ((21 : Int32) &&& 31)) (N := 2) (by omega) (by omega)
      rw [show (2 : Int32) = nI 2 from rfl, c2, bd_s]
      exact J e (by omega)
    · rw [if_neg q]
      obtain ⟨e, he, c2⟩ := andm (x7 >>> ((21 : Int32) &&& 31)) 3
      rw [show (3 : Int32) = nI 3 from rfl, c2]
      exact J e he
  unfold J_L_town_293l190
  rw [ad20, ck46 (show 20 + k < 46 by omega), cl_nI (show 20 + k < 2147483648 by omega), gd_t, nm_s]
  by_cases q : x7 &&& (134217728 : Int32) = (0 : Int32)
  · rw [if_pos q]
    exact J3 10 (by omega) (by omega)
  · rw [if_neg q]
    exact J3 100 (by omega) (by omega)
theorem other_p {a c b0 : Nat} (ha : a < b0) (hc : c < b0 - 1) : (a + 1 + c) % b0 < b0 ∧ a ≠ (a + 1 + c) % b0 := by
  refine ⟨Nat.mod_lt _ (by omega), ?_⟩
  by_cases q : a + 1 + c < b0
  · rw [Nat.mod_eq_of_lt q]; omega
  · rw [Nat.mod_eq_sub_mod (by omega), Nat.mod_eq_of_lt (by omega)]; omega
theorem knots_ok {sL : Nat} (hL : sL ≤ 260) (sxs : Nat → Int32) {b0 b3 : Nat} (h2 : 2 ≤ b0) (h5 : b0 ≤ 5) (h6 : b3 ≤ 6) : ∀ (d k f : Nat) (X : Nat → Ob) (B : Nat → Int32) (its : List It) (w : TV), k + d = b3 → d < f → KS b0 b3 b0 k X B its w → ∃ X' B' its' w', L_L_town_190 sL sxs (0 : Int32) f (1 : Int32) (nI k) X B = some ((1 : Int32), X', B') ∧ KS b0 b3 b0 b3 X' B' its' w' := by
  intro d
  induction d with
  | zero =>
    intro k f X B its w hi hf h
    obtain ⟨f, rfl⟩ : ∃ k, f = k + 1 := ⟨f - 1, by omega⟩
    have : k = b3 := by omega
    subst this
    refine ⟨X, B, its, w, ?_, h⟩
    show L_L_town_190_step sL sxs (0 : Int32) (L_L_town_190 sL sxs (0 : Int32) f) (1 : Int32) (nI k) X B = _
    unfold L_L_town_190_step
    rw [h.2.2.2.2.2.2.2, if_pos (nI_le (Nat.le_refl k) (by omega))]
  | succ d ih =>
    intro k f X B its w hi hf h
    obtain ⟨f, rfl⟩ : ∃ k, f = k + 1 := ⟨f - 1, by omega⟩
    have hB0 := h.2.2.2.2.2.2.1
    have hB3 := h.2.2.2.2.2.2.2
    obtain ⟨y, c1⟩ := cell_ok hL sxs (k := 0 + 1 + k) (by omega)
    obtain ⟨a, ha, c2⟩ := some_ok y (N := b0) (by omega) (by omega)
    obtain ⟨c, hc, c3⟩ := some_ok (y >>> ((3 : Int32) &&& 31)) (N := b0 - 1) (by omega) (by omega)
    obtain ⟨hc1, hc2⟩ := other_p ha hc
    have h' : KS b0 b3 b0 k X (upd (upd B (4 + k) (nI a)) (12 + k) (nI ((a + 1 + c) % b0))) its w := by
      obtain ⟨a1, a2, a3, a4, a5, a6, a7, a8⟩ := h
      exact ⟨a1, a2, a3, a4, a5, a6, by rw [up_n (by omega), up_n (by omega)]; exact a7, by rw [up_n (by omega), up_n (by omega)]; exact a8⟩
    have J : ∀ t : Nat, t < 2 ^ k → ∃ X' B' its' w', J_L_town_293l190 sL sxs (L_L_town_190 sL sxs (0 : Int32) f) ((20 : Int32) + nI k) (nI t) (0 : Int32) (1 : Int32) (nI k) y X (upd (upd B (4 + k) (nI a)) (12 + k) (nI ((a + 1 + c) % b0))) = some ((1 : Int32), X', B') ∧ KS b0 b3 b0 b3 X' B' its' w' := by
      intro t ht
      obtain ⟨X1, B1, its1, w1, r1, r2⟩ := J293_ok sL sxs (0 : Int32) y (L_L_town_190 sL sxs (0 : Int32) f) h' h5 (by omega) ha hc1 hc2 ht (by rw [up_n (by omega), up_e]) (up_e _ _ _)
      obtain ⟨X', B', its', w', u1, u2⟩ := ih (k + 1) f X1 B1 its1 w1 (by omega) (by omega) r2
      exact ⟨X', B', its', w', by rw [r1]; exact u1, u2⟩
    show ∃ X' B' its' w', L_L_town_190_step sL sxs (0 : Int32) (L_L_town_190 sL sxs (0 : Int32) f) (1 : Int32) (nI k) X B = _ ∧ _
    unfold L_L_town_190_step
    rw [hB3, if_neg (nI_ge (show k < b3 by omega) (by omega)), show ((0 : Int32) + (1 : Int32)) + nI k = nI (0 + 1 + k) from by rw [show (0 : Int32) = nI 0 from rfl, show (1 : Int32) = nI 1 from rfl, nI_add, nI_add], c1, bd_s, hB0, c2, bd_s, ad4, ck46 (show 4 + k < 46 by omega), cl_nI (show 4 + k < 2147483648 by omega), gd_t, nm_s, up_n (show 0 ≠ 4 + k by omega), hB0, show nI b0 - (1 : Int32) = nI (b0 - 1) from pk_sub (a := b0) (b := 1) (by omega), c3, bd_s, gd_d (show ¬ nI b0 = (0 : Int32) from fun q => by rw [l_0, nI_eq (by omega) (by omega)] at q; omega), ad12, ck46 (show 12 + k < 46 by omega), cl_nI (show 12 + k < 2147483648 by omega), gd_t, nm_s, up_e, adp1, nI_add, pk_rem (by omega) (by omega) (by omega)]
    by_cases q : (y >>> ((5 : Int32) &&& 31)) &&& (3 : Int32) = (0 : Int32)
    · rw [if_pos q]
      exact J 0 (Nat.two_pow_pos k)
    · rw [if_neg q]
      have hpw := Nat.two_pow_pos k
      obtain ⟨t, ht, c4⟩ := andm ((y >>> ((7 : Int32) &&& 31)) &&& (y >>> ((15 : Int32) &&& 31))) (2 ^ k - 1)
      rw [show ((1 : Int32) <<< (nI k &&& 31)) - (1 : Int32) = nI (2 ^ k - 1) from by rw [l_1, sh1_nI (by omega), pk_sub (by omega)], c4]
      exact J t (by omega)
theorem town_ok {sL : Nat} (hL : sL ≤ 260) (sxs : Nat → Int32) {X : Nat → Ob} (hR : RX X) (B : Nat → Int32) : ∃ X' B' b0 b3 w, f_L_town X B sL sxs (0 : Int32) = some ((1 : Int32), X', B') ∧ 2 ≤ b0 ∧ b0 ≤ 5 ∧ 1 ≤ b3 ∧ b3 ≤ 6 ∧ B' 0 = nI b0 ∧ B' 3 = nI b3 ∧ RX X' ∧ TC (X' 2) w ∧ w.1 3 = b3 ∧ (X' 7).1 3 = nI 0 ∧ (X' 6).1 6 = nI 0 := by
  obtain ⟨y, c1⟩ := cell_ok hL sxs (k := 0) (by omega)
  have c1 : f_L_cell sL sxs (0 : Int32) = some y := c1
  obtain ⟨p, hp, c2⟩ := some_ok y (N := 4) (by omega) (by omega)
  have c2 : f_L_some y (4 : Int32) = some (nI p) := c2
  obtain ⟨q, hq, c3⟩ := some_ok (y >>> ((5 : Int32) &&& 31)) (N := 6) (by omega) (by omega)
  have c3 : f_L_some (y >>> ((5 : Int32) &&& 31)) (6 : Int32) = some (nI q) := c3
  have hlaw : ∃ l0, l0 ≤ 2 ∧ f_L_town X B sL sxs (0 : Int32) = J_L_town_47 sL sxs (2 : Int32) (nI l0) (0 : Int32) y X (upd (upd (upd B 0 ((2 : Int32) + nI p)) 1 (0 : Int32)) 2 ((y >>> ((3 : Int32) &&& 31)) &&& (3 : Int32))) := by
    obtain ⟨j, hj, c4⟩ := andm (y >>> ((3 : Int32) &&& 31)) 3
    have c4 : (y >>> ((3 : Int32) &&& 31)) &&& (3 : Int32) = nI j := c4
    by_cases q3 : j = 3
    · refine ⟨0, by omega, ?_⟩
      unfold f_L_town
      rw [c1, bd_s, c2, bd_s, nm_s, nm_s, nm_s, up_e, c4, q3, if_pos (show nI 3 = (3 : Int32) from rfl)]
      rfl
    · refine ⟨j, by omega, ?_⟩
      unfold f_L_town
      rw [c1, bd_s, c2, bd_s, nm_s, nm_s, nm_s, up_e, c4, if_neg (show ¬ nI j = (3 : Int32) from fun e => by rw [show (3 : Int32) = nI 3 from rfl, nI_eq (by omega) (by omega)] at e; exact q3 e)]
  obtain ⟨l0, hl0, e0⟩ := hlaw
  obtain ⟨z, X1, hz, w1, w2, w3⟩ := wipe_ok hR
  generalize hB3' : upd (upd (upd B 0 ((2 : Int32) + nI p)) 1 (0 : Int32)) 2 ((y >>> ((3 : Int32) &&& 31)) &&& (3 : Int32)) = B3 at e0
  have hB30 : B3 0 = nI (2 + p) := by
    rw [← hB3', up_n (by omega), up_n (by omega), up_e]
    exact nI_add 2 p
  obtain ⟨B4, hB4⟩ : ∃ b : Nat → Int32, b = upd (upd (upd (upd B3 2 (nI l0)) 3 ((1 : Int32) + nI q)) 44 (((1 : Int32) <<< ((upd (upd B3 2 (nI l0)) 3 ((1 : Int32) + nI q)) 3 &&& 31)) - (1 : Int32))) 45 (0 : Int32) := ⟨_, rfl⟩
  have hB40 : B4 0 = nI (2 + p) := by rw [hB4, up_n (by omega), up_n (by omega), up_n (by omega), up_n (by omega), hB30]
  have hB42 : B4 2 = nI l0 := by rw [hB4, up_n (by omega), up_n (by omega), up_n (by omega), up_e]
  have hB43 : B4 3 = nI (1 + q) := by
    rw [hB4, up_n (by omega), up_n (by omega), up_e]
    exact nI_add 1 q
  obtain ⟨X2, i1, i2, i3⟩ := item_ok w2 w3 (c := 108) (m := 1) (by omega) (by omega) (xs := fun i => if i = 0 then l0 else 0) (fun i _ => by show (if i = 0 then l0 else 0) < 100; split <;> omega) (by simp)
  have i1 : f_L_item X1 (108 : Int32) (1 : Int32) (nI l0) (0 : Int32) (0 : Int32) (0 : Int32) (0 : Int32) = some ((1 : Int32), X2) := i1
  have hK : KS (2 + p) (1 + q) 0 0 X2 B4 [(108, 1, fun i => if i = 0 then l0 else 0)] (vL v0 l0) := by
    refine ⟨?_, i3, ⟨Or.inl ⟨rfl, rfl, hl0⟩, rfl⟩, rfl, rfl, rfl, hB40, hB43⟩
    have i2 : TL (X2 0) (tkI (108, 1, fun i => if i = 0 then l0 else 0)) := i2
    show TL (X2 0) (tkI (108, 1, fun i => if i = 0 then l0 else 0) ++ [])
    rw [List.append_nil]
    exact i2
  obtain ⟨X3, B5, its3, w4, j1, j2⟩ := persons_ok sL sxs (0 : Int32) y (by omega) (2 + p) 0 512 X2 B4 _ _ (by omega) (by omega) hK
  obtain ⟨X4, B6, its4, w5, k1, k2⟩ := knots_ok hL sxs (by omega) (by omega) (by omega) (1 + q) 0 512 X3 B5 its3 w4 (by omega) (by omega) j2
  obtain ⟨a1, a2, a3, a4, a5, a6, a7, a8⟩ := k2
  obtain ⟨X5, f1, f2, f3⟩ := fault_ok a2 a1 a3
  obtain ⟨X6, l1, l2, l3, l4, l5⟩ := lay_ok f3 f2 a3 (by omega)
  refine ⟨X6, B6, 2 + p, 1 + q, w5, ?_, by omega, by omega, by omega, by omega, a7, a8, l5, l2, a5, l3, l4⟩
  rw [e0]
  unfold J_L_town_47
  rw [show ck (2 : Int32) 46 = true from by decide, gd_t, show (2 : Int32).toNatClampNeg = 2 from by decide, nm_s, c3, bd_s, nm_s, nm_s, nm_s, ← hB4, w1, bd_s, if_neg (show ¬ nI z < (0 : Int32) from nI_pos (by omega)), hB42]
  show bd (f_L_item X1 (108 : Int32) (1 : Int32) (nI l0) (0 : Int32) (0 : Int32) (0 : Int32) (0 : Int32)) _ = _
  rw [i1, bd_s, if_neg (show ¬ (1 : Int32) = (0 : Int32) by decide)]
  unfold J_L_town_107
  have j1 : L_L_town_112 sL sxs (0 : Int32) y 512 (1 : Int32) (0 : Int32) X2 B4 = some ((1 : Int32), X3, B5) := j1
  have k1 : L_L_town_190 sL sxs (0 : Int32) 512 (1 : Int32) (0 : Int32) X3 B5 = some ((1 : Int32), X4, B6) := k1
  show bd (L_L_town_112 sL sxs (0 : Int32) y 512 (1 : Int32) (0 : Int32) X2 B4) _ = _
  rw [j1, bd_s]
  show bd (L_L_town_190 sL sxs (0 : Int32) 512 (1 : Int32) (0 : Int32) X3 B5) _ = _
  rw [k1, bd_s, if_neg (show ¬ (1 : Int32) = (0 : Int32) by decide)]
  show bd (f_X7_fault X4) _ = _
  rw [f1, bd_s, if_pos (show (-4 : Int32) = (-4 : Int32) from rfl)]
  show bd (f_X7_lay X5) _ = _
  rw [l1, bd_s]
  show (if nI (w5.1 3) = B6 3 then some ((1 : Int32), X6, B6) else some ((0 : Int32), X6, B6)) = _
  rw [a5, a8, if_pos rfl]
