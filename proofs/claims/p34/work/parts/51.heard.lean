/-! ===== the text that the law writes, read (own text) ===== -/
theorem byt_l (bs : List Nat) (q : Nat) : byt bs.length (fun i => bs.getD i 0) q = bs.getD q 0 := by
  unfold byt
  by_cases h : q < bs.length
  · rw [if_pos h]
  · rw [if_neg h, List.getD_eq_getElem?_getD, List.getElem?_eq_none (by omega)]; rfl
theorem getD_app (a b : List Nat) (j : Nat) : (a ++ b).getD (a.length + j) 0 = b.getD j 0 := by
  rw [List.getD_eq_getElem?_getD, List.getD_eq_getElem?_getD, List.getElem?_append_right (by omega), show a.length + j - a.length = j by omega]
theorem getD_left (a b : List Nat) {j : Nat} (h : j < a.length) : (a ++ b).getD j 0 = a.getD j 0 := by
  rw [List.getD_eq_getElem?_getD, List.getD_eq_getElem?_getD, List.getElem?_append_left h]
/-- these bytes stand at p -/
def At (n : Nat) (B : Nat → Nat) (p : Nat) (l : List Nat) : Prop := ∀ j, j < l.length → byt n B (p + j) = l.getD j 0
theorem At.left {n : Nat} {B : Nat → Nat} {p : Nat} {a b : List Nat} (h : At n B p (a ++ b)) : At n B p a := fun j hj => by
  rw [h j (by rw [List.length_append]; omega), getD_left a b hj]
theorem At.right {n : Nat} {B : Nat → Nat} {p : Nat} {a b : List Nat} (h : At n B p (a ++ b)) : At n B (p + a.length) b := fun j hj => by
  rw [show p + a.length + j = p + (a.length + j) by omega, h (a.length + j) (by rw [List.length_append]; omega), getD_app]
theorem rdn_dg {n : Nat} {B : Nat → Nat} {p v sg : Nat} (hv : v < 100) (hs : sg = 44 ∨ sg = 59) (hb : At n B p (dg v ++ [sg])) : rdn n B p sg = some (p + (dg v ++ [sg]).length, v) := by
  have hd0 : ∀ q, 48 ≤ byt n B q → byt n B q ≤ 57 → digit n B q = true := fun q h1 h2 => by
    unfold digit
    rw [decide_eq_true h1, decide_eq_true h2]; rfl
  have hd1 : ∀ q, byt n B q = sg → digit n B q = false := fun q h => by
    unfold digit
    rw [h]
    rcases hs with rfl | rfl <;> rfl
  have hst : ∀ f q, digit n B q = true → dend n B (f + 1) q = dend n B f (q + 1) := fun f q h => by
    show (if digit n B q then dend n B f (q + 1) else q) = _
    rw [h]; rfl
  have hen : ∀ f q, digit n B q = false → dend n B (f + 1) q = q := fun f q h => by
    show (if digit n B q then dend n B f (q + 1) else q) = _
    rw [h]; rfl
  unfold dg at hb ⊢
  by_cases q : v < 10
  · rw [if_pos q] at hb ⊢
    have b0 : byt n B (p + 0) = 48 + v := hb 0 (show 0 < 2 by omega)
    have b1 : byt n B (p + 1) = sg := hb 1 (show 1 < 2 by omega)
    have e : dend n B 3 p = p + 1 := by
      rw [hst 2 p (hd0 p (by rw [show p = p + 0 from rfl, b0]; omega) (by rw [show p = p + 0 from rfl, b0]; omega)), hen 1 (p + 1) (hd1 _ b1)]
    unfold rdn
    rw [e, b1, if_pos ⟨by omega, rfl⟩, show p + 1 - p = 1 by omega]
    show some (p + 1 + 1, 10 * 0 + byt n B (p + 0) - 48) = some (p + 2, v)
    rw [b0, show 10 * 0 + (48 + v) - 48 = v by omega]
  · rw [if_neg q] at hb ⊢
    have b0 : byt n B (p + 0) = 48 + v / 10 := hb 0 (show 0 < 3 by omega)
    have b1 : byt n B (p + 1) = 48 + v % 10 := hb 1 (show 1 < 3 by omega)
    have b2 : byt n B (p + 2) = sg := hb 2 (show 2 < 3 by omega)
    have e : dend n B 3 p = p + 2 := by
      rw [hst 2 p (hd0 p (by rw [show p = p + 0 from rfl, b0]; omega) (by rw [show p = p + 0 from rfl, b0]; omega)), hst 1 (p + 1) (hd0 _ (by rw [b1]; omega) (by rw [b1]; omega)), hen 0 (p + 1 + 1) (hd1 _ b2)]
    unfold rdn
    rw [e, b2, if_pos ⟨by omega, rfl⟩, show p + 2 - p = 2 by omega]
    show some (p + 2 + 1, 10 * (10 * 0 + byt n B (p + 0) - 48) + byt n B (p + 1) - 48) = some (p + 3, v)
    rw [b0, b1, show 10 * (10 * 0 + (48 + v / 10) - 48) + (48 + v % 10) - 48 = v by omega]
theorem nums_ok {T o : Ob} {n : Nat} {B : Nat → Nat} (h : TX T o n B) {m : Nat} (hm : m ≤ 5) (xs : Nat → Nat) (hx : ∀ i, i < m → xs i < 100) : ∀ (d i p f : Nat) (o0 : Ob), i + d = m → d < f → At n B p (tkR xs m d i) → p + 3 * d < 1000 → ∃ o0', L_X2_readNumbers_14 (nI m) T f (nI p) (nI i) o0 = some (1, nI (p + (tkR xs m d i).length), o0') ∧ (∀ j, j < i → o0'.2 0 j = o0.2 0 j) ∧ ∀ j, i ≤ j → j < m → o0'.2 0 j = nI (xs j) := by
  intro d
  induction d with
  | zero =>
    intro i p f o0 hi hf ha hp
    obtain ⟨f, rfl⟩ : ∃ k, f = k + 1 := ⟨f - 1, by omega⟩
    refine ⟨o0, ?_, fun _ _ => rfl, fun j h1 h2 => by omega⟩
    show L_X2_readNumbers_14_step (nI m) T (L_X2_readNumbers_14 (nI m) T f) (nI p) (nI i) o0 = some (1, nI p, o0)
    unfold L_X2_readNumbers_14_step
    rw [if_pos (nI_le (show m ≤ i by omega) (by omega))]
  | succ d ih =>
    intro i p f o0 hi hf ha hp
    obtain ⟨f, rfl⟩ : ∃ k, f = k + 1 := ⟨f - 1, by omega⟩
    have hl := dg_len (xs i)
    have a1 : At n B p (dg (xs i) ++ [if i + 1 = m then 59 else 44]) := At.left ha
    have a2 : At n B (p + (dg (xs i) ++ [if i + 1 = m then 59 else 44]).length) (tkR xs m d (i + 1)) := At.right ha
    have hs : (if i + 1 = m then 59 else 44) = 44 ∨ (if i + 1 = m then 59 else 44) = 59 := by split <;> omega
    have hr := rdn_dg (hx i (by omega)) hs a1
    have c := num_c h (p := p) (i := i) (k := m) (by omega) (by omega) hm o0 (L_X2_readNumbers_14 (nI m) T f)
    rw [hr] at c
    have c : L_X2_readNumbers_14 (nI m) T (f + 1) (nI p) (nI i) o0 = L_X2_readNumbers_14 (nI m) T f (nI (p + (dg (xs i) ++ [if i + 1 = m then 59 else 44]).length)) (nI (i + 1)) (sA o0 0 i (nI (xs i))) := c
    have hll : (dg (xs i) ++ [if i + 1 = m then 59 else 44]).length ≤ 3 := by
      rw [List.length_append]
      show (dg (xs i)).length + 1 ≤ 3
      omega
    obtain ⟨o0', b1, b2, b3⟩ := ih (i + 1) _ f (sA o0 0 i (nI (xs i))) (by omega) (by omega) a2 (by omega)
    refine ⟨o0', ?_, fun j hj => ?_, fun j h1 h2 => ?_⟩
    · rw [c, b1]
      show _ = some (1, nI (p + ((dg (xs i) ++ [if i + 1 = m then 59 else 44]) ++ tkR xs m d (i + 1)).length), o0')
      rw [List.length_append (as := dg (xs i) ++ [if i + 1 = m then 59 else 44]), Nat.add_assoc]
    · rw [b2 j (by omega), sA2, if_neg (by omega)]
    · rcases Nat.lt_or_ge i j with q | q
      · exact b3 j (by omega) h2
      · have : j = i := by omega
        subst this
        rw [b2 j (by omega), sA2, if_pos ⟨rfl, rfl⟩]
theorem nums_all {T o : Ob} {n : Nat} {B : Nat → Nat} (h : TX T o n B) {m : Nat} (h1 : 1 ≤ m) (hm : m ≤ 5) {xs : Nat → Nat} (hx : ∀ i, i < m → xs i < 100) {p : Nat} (hp : p < 400) (ha : At n B p (tkR xs m m 0)) (o0 : Ob) : ∃ o0', f_X2_readNumbers o0 T (nI p) (nI m) = some (nI (p + (tkR xs m m 0).length), o0') ∧ ∀ j, j < m → o0'.2 0 j = nI (xs j) := by
  obtain ⟨o0', b1, -, b3⟩ := nums_ok h hm xs hx m 0 p 512 o0 (by omega) (by omega) ha (by omega)
  refine ⟨o0', ?_, fun j hj => b3 j (by omega) hj⟩
  unfold f_X2_readNumbers
  rw [if_pos (show (1 : Int32) ≤ nI m from nI_le (a := 1) (b := m) h1 (by omega))]
  show bd (L_X2_readNumbers_14 (nI m) T 512 (nI p) (nI 0) o0) _ = _
  rw [b1, bd_s]
  rfl
def fitIt (w : TV) (t : It) : Prop := (t.1 = 108 ∧ t.2.1 = 1 ∧ t.2.2 0 ≤ 2) ∨ (t.1 = 112 ∧ t.2.1 = 1 ∧ t.2.2 0 ≤ 1 ∧ w.1 0 < 6) ∨ (t.1 = 107 ∧ t.2.1 = 5 ∧ w.1 3 < 8 ∧ t.2.2 0 < w.1 0 ∧ t.2.2 1 < w.1 0 ∧ t.2.2 0 ≠ t.2.2 1 ∧ t.2.2 2 < 2 ^ w.1 3 ∧ t.2.2 2 < 100 ∧ t.2.2 3 ≤ 99 ∧ t.2.2 4 ≤ 3)
def ap (w : TV) (t : It) : TV := if t.1 = 108 then vL w (t.2.2 0) else if t.1 = 112 then vP w (t.2.2 0) else vK w (t.2.2 0) (t.2.2 1) (t.2.2 2) (t.2.2 3) (t.2.2 4)
theorem step_c {T T3 o : Ob} {n p c : Nat} {B : Nat → Nat} (ht : TX T o n B) (hp : p < n) (hc : c < 300) (o0 : Ob) (self : Int32 → Int32 → Ob → Ob → Option (Nat × Int32 × Ob × Ob)) : L_X2_read_9_step T self (nI p) (nI c) o0 T3 = bd (f_X2_numbersOf (nI (byt n B p))) (fun z3 => bd (f_X2_readNumbers o0 T (nI (p + 1)) z3) (fun z4 => nm (z4.1) (fun v5 => if v5 = (-4 : Int32) then some (0, nI p, z4.2, T3) else bd (f_X2_takeItem z4.2 T3 (nI (byt n B p))) (fun z6 => if z6.1 = (0 : Int32) then some (0, nI p, z4.2, z6.2) else self v5 (nI (c + 1)) z4.2 z6.2)))) := by
  have hn := ht.1
  unfold L_X2_read_9_step
  rw [if_neg (by rw [l_300, nI_leI (by omega) (by omega)]; omega), show f_X5_size T = some (nI n) from by unfold f_X5_size; rw [ht.2.1], bd_s, if_neg (by rw [nI_leI (by omega) (by omega)]; omega), at5_c ht (by omega), bd_s, if_pos hp, l_1, nI_add]
  simp only [nm_s, l_1, nI_add]
theorem item_read {T T3 o : Ob} {n p c : Nat} {B : Nat → Nat} {w : TV} (ht : TX T o n B) (hp : p < n) (hc : c < 300) (hT : TC T3 w) (hw : TOK w) {t : It} (hg : fitIt w t) (ha : At n B p (tkI t)) (o0 : Ob) (self : Int32 → Int32 → Ob → Ob → Option (Nat × Int32 × Ob × Ob)) :
    ∃ o0' T3', L_X2_read_9_step T self (nI p) (nI c) o0 T3 = self (nI (p + (tkI t).length)) (nI (c + 1)) o0' T3' ∧ TC T3' (ap w t) ∧ TOK (ap w t) := by
  have hn := ht.1
  have hn4 : ∀ q, q < 1000 → ¬ nI q = (-4 : Int32) := fun q hq => nIn4 (by omega)
  obtain ⟨c0, m, xs⟩ := t
  have hb : byt n B p = c0 := ha 0 (show 0 < (tkR xs m m 0).length + 1 by omega)
  have ha2 : At n B (p + 1) (tkR xs m m 0) := At.right (a := [c0]) ha
  have hlen : p + 1 + (tkR xs m m 0).length = p + (tkI (c0, m, xs)).length := by
    show _ = p + ((tkR xs m m 0).length + 1)
    omega
  have hl := tkR_len xs m m 0
  rw [step_c ht hp hc, hb]
  rcases hg with ⟨rfl, rfl, h2⟩ | ⟨rfl, rfl, h2, h6⟩ | ⟨rfl, rfl, h8, g0, g1, gne, g2, g2', g3, g4⟩
  · have h2 : xs 0 ≤ 2 := h2
    have hx1 : ∀ i, i < 1 → xs i < 100 := by
      intro i hi
      have : i = 0 := by omega
      subst this
      omega
    obtain ⟨o0', b1, b2⟩ := nums_all ht (m := 1) (by omega) (by omega) hx1 (by omega) ha2 o0
    have x0 := b2 0 (by omega)
    obtain ⟨T3', t1, t2⟩ := (setLaw_c hT (x := xs 0) (by omega)).1 h2
    refine ⟨o0', T3', ?_, t2, vL_ok hw h2⟩
    have tk : f_X2_takeItem o0' T3 (nI 108) = bd (f_X6_setLaw T3 (nI (xs 0))) (fun z1 => gd (ckz z1.1) (some (z1.1, z1.2))) := by
      unfold f_X2_takeItem
      rw [if_neg (by decide), if_pos (show nI 108 = (108 : Int32) from rfl), x0]
    rw [show f_X2_numbersOf (nI 108) = some (nI 1) from by decide, bd_s, b1, bd_s, nm_s, if_neg (hn4 _ (by omega)), tk, t1, hlen]
    exact (tk1 _ _).trans (if_neg (show ¬ (1 : Int32) = 0 by decide))
  · have h2 : xs 0 ≤ 1 := h2
    have hx1 : ∀ i, i < 1 → xs i < 100 := by
      intro i hi
      have : i = 0 := by omega
      subst this
      omega
    obtain ⟨o0', b1, b2⟩ := nums_all ht (m := 1) (by omega) (by omega) hx1 (by omega) ha2 o0
    have x0 := b2 0 (by omega)
    obtain ⟨T3', t1, t2⟩ := (addPerson_c hT hw (x := xs 0) (by omega)).1 ⟨h2, h6⟩
    refine ⟨o0', T3', ?_, t2, vP_ok hw h2 h6⟩
    have tk : f_X2_takeItem o0' T3 (nI 112) = bd (f_X6_addPerson T3 (nI (xs 0))) (fun z1 => gd (ckz z1.1) (some (z1.1, z1.2))) := by
      unfold f_X2_takeItem
      rw [if_pos (show nI 112 = (112 : Int32) from rfl), x0]
    rw [show f_X2_numbersOf (nI 112) = some (nI 1) from by decide, bd_s, b1, bd_s, nm_s, if_neg (hn4 _ (by omega)), tk, t1, hlen]
    exact (tk1 _ _).trans (if_neg (show ¬ (1 : Int32) = 0 by decide))
  · have g0 : xs 0 < w.1 0 := g0
    have g1 : xs 1 < w.1 0 := g1
    have gne : xs 0 ≠ xs 1 := gne
    have g2 : xs 2 < 2 ^ w.1 3 := g2
    have g2' : xs 2 < 100 := g2'
    have g3 : xs 3 ≤ 99 := g3
    have g4 : xs 4 ≤ 3 := g4
    have h60 := hw.1
    have hx5 : ∀ i, i < 5 → xs i < 100 := by
      intro i hi
      have hc : i = 0 ∨ i = 1 ∨ i = 2 ∨ i = 3 ∨ i = 4 := by omega
      rcases hc with rfl | rfl | rfl | rfl | rfl <;> omega
    obtain ⟨o0', b1, b2⟩ := nums_all ht (m := 5) (by omega) (by omega) hx5 (by omega) ha2 o0
    have gg : good w (nI (xs 0)) (nI (xs 1)) (nI (xs 2)) (nI (xs 3)) (nI (xs 4)) = true := by
      have hpw : 2 ^ w.1 3 ≤ 2 ^ 8 := Nat.pow_le_pow_right (n := 2) (by omega) (by omega)
      unfold good
      rw [inb_nI (by omega), inb_nI (by omega), inb_nI (by omega), inb_nI (by omega), inb_nI (by omega), decide_eq_true g0, decide_eq_true g1, decide_eq_true g2, decide_eq_true (show xs 3 < 100 by omega), decide_eq_true (show xs 4 < 4 by omega), decide_eq_true (show ¬ nI (xs 0) = nI (xs 1) by rw [nI_eq (by omega) (by omega)]; exact gne)]
      rfl
    obtain ⟨T3', t1, t2⟩ := addKnot_c hT hw h8 g0 g1 gg
    refine ⟨o0', T3', ?_, t2, vK_ok hw h8 g0 g1 gne g2 g3 g4⟩
    have tk : f_X2_takeItem o0' T3 (nI 107) = bd (f_X6_addKnot T3 (nI (xs 0)) (nI (xs 1)) (nI (xs 2)) (nI (xs 3)) (nI (xs 4))) (fun z1 => gd (ckz z1.1) (some (z1.1, z1.2))) := by
      unfold f_X2_takeItem
      rw [if_neg (by decide), if_neg (by decide), b2 0 (by omega), b2 1 (by omega), b2 2 (by omega), b2 3 (by omega), b2 4 (by omega)]
    rw [show f_X2_numbersOf (nI 107) = some (nI 5) from by decide, bd_s, b1, bd_s, nm_s, if_neg (hn4 _ (by omega)), tk, t1, hlen]
    exact (tk1 _ _).trans (if_neg (show ¬ (1 : Int32) = 0 by decide))
def Ch : TV → List It → TV → Prop
  | w, [], w' => w = w'
  | w, t :: r, w' => fitIt w t ∧ Ch (ap w t) r w'
theorem Ch.snoc : ∀ (its : List It) {w w' : TV} {t : It}, Ch w its w' → fitIt w' t → Ch w (its ++ [t]) (ap w' t)
  | [], w, w', t, h, g => by
    have h : w = w' := h
    subst h
    exact ⟨g, rfl⟩
  | s :: r, w, w', t, h, g => ⟨h.1, Ch.snoc r h.2 g⟩
theorem fitIt.m {w : TV} {t : It} (h : fitIt w t) : t.2.1 ≤ 5 := by
  rcases h with h | h | h <;> omega
def tkS : List It → List Nat
  | [] => []
  | t :: r => tkI t ++ tkS r
theorem tkS_snoc : ∀ (its : List It) (t : It), tkS (its ++ [t]) = tkS its ++ tkI t
  | [], t => by
    show tkI t ++ [] = [] ++ tkI t
    rw [List.append_nil, List.nil_append]
  | s :: r, t => by
    show tkI s ++ tkS (r ++ [t]) = (tkI s ++ tkS r) ++ tkI t
    rw [tkS_snoc r t, List.append_assoc]
theorem tkS_len : ∀ (its : List It) {w w' : TV}, Ch w its w' → (tkS its).length ≤ 16 * its.length
  | [], w, w', _ => by simp [tkS]
  | s :: r, w, w', h => by
    have h1 := tkI_len s
    have h2 := tkS_len r h.2
    have h3 := h.1.m
    show (tkI s ++ tkS r).length ≤ 16 * (r.length + 1)
    rw [List.length_append]
    omega
theorem items_read {T o : Ob} {n : Nat} {B : Nat → Nat} (ht : TX T o n B) : ∀ (its : List It) (p c f : Nat) (o0 T3 : Ob) (w w' : TV), Ch w its w' → TC T3 w → TOK w → At n B p (tkS its) → p + (tkS its).length = n → c ≤ p → n - p < f → ∃ q o0' T3', L_X2_read_9 T f (nI p) (nI c) o0 T3 = some (1, q, o0', T3') ∧ TC T3' w' ∧ TOK w' := by
  intro its
  have hn := ht.1
  induction its with
  | nil =>
    intro p c f o0 T3 w w' h hT hw ha hp hc hf
    obtain ⟨f, rfl⟩ : ∃ k, f = k + 1 := ⟨f - 1, by omega⟩
    have h : w = w' := h
    subst h
    have hp : p + 0 = n := hp
    refine ⟨nI p, o0, T3, ?_, hT, hw⟩
    show L_X2_read_9_step T (L_X2_read_9 T f) (nI p) (nI c) o0 T3 = _
    unfold L_X2_read_9_step f_X5_size
    rw [ht.2.1, bd_s, if_pos (nI_le (show n ≤ p by omega) (by omega))]
    split <;> rfl
  | cons t r ih =>
    intro p c f o0 T3 w w' h hT hw ha hp hc hf
    obtain ⟨f, rfl⟩ : ∃ k, f = k + 1 := ⟨f - 1, by omega⟩
    have hpl : p + (tkI t ++ tkS r).length = n := hp
    rw [List.length_append] at hpl
    have h1 : 1 ≤ (tkI t).length := by
      show 1 ≤ (tkR t.2.2 t.2.1 t.2.1 0).length + 1
      omega
    have ha : At n B p (tkI t ++ tkS r) := ha
    obtain ⟨o1, T1, a1, a2, a3⟩ := item_read ht (show p < n by omega) (show c < 300 by omega) hT hw h.1 (At.left ha) o0 (L_X2_read_9 T f)
    have a1 : L_X2_read_9 T (f + 1) (nI p) (nI c) o0 T3 = L_X2_read_9 T f (nI (p + (tkI t).length)) (nI (c + 1)) o1 T1 := a1
    rw [a1]
    exact ih _ (c + 1) f o1 T1 _ w' h.2 a2 a3 (At.right ha) (by omega) (by omega) (by omega)
theorem TL.tx {T : Ob} {bs : List Nat} (h : TL T bs) : TX T (fun _ => nI bs.length, fun _ i => nI (bs.getD i 0)) bs.length (fun i => bs.getD i 0) := ⟨h.1, h.2.1, rfl, fun i hi => ⟨(h.2.2 i hi).1, (h.2.2 i hi).2, rfl⟩⟩
theorem read_ok {T : Ob} {its : List It} (h : TL T (tkS its)) {w : TV} (hc : Ch v0 its w) (o0 T3 : Ob) : ∃ o0' T3', f_X2_read o0 T T3 = some ((-4 : Int32), o0', T3') ∧ TC T3' w ∧ TOK w := by
  have es : f_X6_empty T3 = some (sF (sF (sF (sF (sF (sF T3 6 (nI 0)) 7 (nI 0)) 8 (nI 0)) 9 (nI 0)) 10 (nI 0)) 11 (nI 0)) := rfl
  have hT0 : TC (sF (sF (sF (sF (sF (sF T3 6 (nI 0)) 7 (nI 0)) 8 (nI 0)) 9 (nI 0)) 10 (nI 0)) 11 (nI 0)) v0 := ⟨rfl, rfl, rfl, rfl, rfl, rfl, fun k hk => by exact absurd hk (Nat.not_lt_zero k)⟩
  have hl := h.1
  obtain ⟨q, o1, T1, a1, a2, a3⟩ := items_read h.tx its 0 0 512 o0 _ v0 w hc hT0 v0_ok (fun j _ => by rw [byt_l, Nat.zero_add]) (by omega) (by omega) (by omega)
  refine ⟨o1, T1, ?_, a2, a3⟩
  unfold f_X2_read
  rw [es, bd_s]
  show bd (L_X2_read_9 T 512 (nI 0) (nI 0) o0 _) _ = _
  rw [a1, bd_s, if_neg (show ¬ 1 = 0 by omega)]
