/-! ===== ahead of a set; the reference's undoing of a set (own text) ===== -/
theorem pcn_mono {a b : Nat} : ∀ n, (∀ j, j < n → a.testBit j = true → b.testBit j = true) → pcn a n ≤ pcn b n
  | 0, _ => Nat.le_refl _
  | n + 1, h => by
    have h1 := pcn_mono n (fun j hj => h j (by omega))
    have h2 := h n (by omega)
    rw [pcn, pcn]
    cases q : a.testBit n
    · simp; omega
    · rw [h2 q]; simp; exact h1
theorem pcn_lt {a b : Nat} : ∀ n, (∀ j, j < n → a.testBit j = true → b.testBit j = true) → (∃ j, j < n ∧ a.testBit j = false ∧ b.testBit j = true) → pcn a n < pcn b n
  | 0, _, h => by obtain ⟨j, hj, _⟩ := h; omega
  | n + 1, h, ⟨j, hj, h3, h4⟩ => by
    have h1 := pcn_mono n (fun j hj => h j (by omega))
    have h2 := h n (by omega)
    rw [pcn, pcn]
    by_cases q : j = n
    · subst q
      rw [h3, h4]; simp; omega
    · have := pcn_lt n (fun j hj => h j (by omega)) ⟨j, by omega, h3, h4⟩
      cases q2 : a.testBit n
      · simp; omega
      · rw [h2 q2]; simp; exact this
theorem pc_mono {a b : Nat} (h : Sub a b) : pc a ≤ pc b := pcn_mono 8 (fun j _ hj => h j hj)
theorem pc_lt {a b : Nat} (h : Sub a b) (hb : b < 256) (hne : a ≠ b) : pc a < pc b := by
  apply pcn_lt 8 (fun j _ hj => h j hj)
  apply Classical.byContradiction
  intro hc
  apply hne
  refine ext8 (h.lt hb) hb (fun j hj => ?_)
  cases q1 : a.testBit j
  · cases q2 : b.testBit j
    · rfl
    · exact absurd ⟨j, hj, q1, q2⟩ hc
  · rw [h j q1]
theorem pcn_part {a b : Nat} (hb : b < 256) (h : Sub a b) : ∀ n, pcn (sd b a) n + pcn a n = pcn b n
  | 0 => rfl
  | n + 1 => by
    have h1 := pcn_part hb h n
    have h2 := h n
    rw [pcn, pcn, pcn, sd_tb hb]
    cases q : a.testBit n
    · simp; omega
    · rw [h2 q]; simp; omega
theorem pc_part {a b : Nat} (hb : b < 256) (h : Sub a b) : pc (sd b a) + pc a = pc b := pcn_part hb h 8
def Closed (v : TV) (s : Nat) : Prop := ∀ k, s.testBit k = true → Sub (way v k (v.1 4)) s
def passA (v : TV) (s : Nat) : Nat → Nat
  | 0 => s
  | k + 1 => passA v s k ||| (if (passA v s k).testBit k then way v k (v.1 4) else 0)
theorem sub_or {a b c : Nat} (h1 : Sub a c) (h2 : Sub b c) : Sub (a ||| b) c := fun j h => by
  rw [Nat.testBit_or, Bool.or_eq_true] at h
  exact h.elim (h1 j) (h2 j)
theorem or_l (a b : Nat) : Sub a (a ||| b) := fun j h => by rw [Nat.testBit_or, h]; rfl
theorem or_r (a b : Nat) : Sub b (a ||| b) := fun j h => by rw [Nat.testBit_or, h]; simp
theorem way_sub (v : TV) (k s : Nat) : Sub (way v k s) s := fun j h => by
  rw [way_tb] at h
  simp at h
  exact h.2.2.1
theorem z_sub (a : Nat) : Sub 0 a := fun j h => by simp at h
theorem passA_spec {v : TV} (s : Nat) : ∀ n, Sub s (passA v s n) ∧ (Sub s (v.1 4) → Sub (passA v s n) (v.1 4)) ∧ (∀ D, Closed v D → Sub s D → Sub (passA v s n) D) ∧ ∀ k, k < n → (passA v s n = s → s.testBit k = true → Sub (way v k (v.1 4)) s)
  | 0 => ⟨Sub.rf _, fun h => h, fun _ _ h => h, fun k hk => by omega⟩
  | n + 1 => by
    obtain ⟨a, b, c, d⟩ := passA_spec (v := v) s n
    have hsub : Sub (passA v s n) (passA v s (n + 1)) := by rw [passA]; exact or_l _ _
    refine ⟨a.tr hsub, fun h => ?_, fun D h1 h2 => ?_, fun k hk he hb => ?_⟩
    · rw [passA]
      refine sub_or (b h) ?_
      split
      · exact way_sub _ _ _
      · exact z_sub _
    · rw [passA]
      refine sub_or (c D h1 h2) ?_
      split
      · rename_i q
        exact h1 n (c D h1 h2 n q)
      · exact z_sub _
    · have e1 : passA v s n = s := by
        refine Sub.anti ?_ a
        rw [← he]
        rw [he]
        have := hsub
        rw [he] at this
        exact this
      by_cases q : k = n
      · subst q
        have h3 : Sub (way v k (v.1 4)) (passA v s (k + 1)) := by
          rw [passA, e1, if_pos hb]
          exact or_r _ _
        rw [he] at h3
        exact h3
      · exact d k (by omega) e1 hb
theorem passA_closed {v : TV} (hv : TOK v) {s : Nat} (hs : Sub s (v.1 4)) (h : passA v s 8 = s) : Closed v s := by
  intro k hk
  exact (passA_spec s 8).2.2.2 k (tb_lt (hs.lt hv.td) hk) h hk
theorem ahead_pass {T o0 : Ob} {v : TV} (hT : TC T v) (hv : TOK v) {s : Nat} (hs : Sub s (v.1 4)) (x3 x4 : Int32) : L_X0_withAhead_24 x3 x4 o0 T 512 (nI s) (nI 0) = some (nI (passA v s 8)) := by
  have h8 := hv.2.2.2.1
  have htd := hv.td
  have key := loop_up (fun n (x : Int32 × Int32) => L_X0_withAhead_24 x3 x4 o0 T n x.1 x.2) (fun j (_ : Unit) => (nI (passA v s j), nI j)) (fun _ u => u) (fun _ => nI (passA v s 8)) 8 (fun j _ => True)
    (by
      intro n j u hj _
      refine ⟨?_, trivial⟩
      have hA := (passA_spec (v := v) s j).2.1 hs
      have hl : passA v s j < 256 := hA.lt htd
      show L_X0_withAhead_24_step x3 x4 o0 T (L_X0_withAhead_24 x3 x4 o0 T n) _ _ = L_X0_withAhead_24 x3 x4 o0 T n _ _
      unfold L_X0_withAhead_24_step
      rw [hT.2.2.2.2.1, passA]
      simp (disch := omega) only [bd_s, nm_s, l_0, l_1, l_2, l_3, l_4, l_5, l_6, l_7, l_8, l_9, l_10, l_16, l_20, l_32, l_44, l_48, l_57, l_59, l_60, l_99, l_100, l_107, l_108, l_112, l_255, l_256, l_300, l_9999, le_nI, lt_nI, eq_nI, cl_nI, ck_nI, gd_d, b2i_z, b2i_o, has_c, has_m, bit_c, within_c, nI_add, if_pos, if_neg, nI_or, nI_and, sh1_nI, pk_sub, gd_ckz]
      cases q : (passA v s j).testBit j
      · simp
      · have hjn : j < v.1 3 := inK.tb (v := v) hv.2.2.2.2.1 (hA j q)
        simp (disch := omega) only [bd_s, nm_s, l_0, l_1, l_2, l_3, l_4, l_5, l_6, l_7, l_8, l_9, l_10, l_16, l_20, l_32, l_44, l_48, l_57, l_59, l_60, l_99, l_100, l_107, l_108, l_112, l_255, l_256, l_300, l_9999, le_nI, lt_nI, eq_nI, cl_nI, ck_nI, gd_d, b2i_z, b2i_o, has_c, has_m, bit_c, within_c, nI_add, if_pos, if_neg, nI_or, nI_and, sh1_nI, pk_sub, gd_ckz, way_c hT hv hjn (show inK v (v.1 4) from hv.2.2.2.2.1)]
        simp)
    (by
      intro n u _
      show L_X0_withAhead_24_step x3 x4 o0 T (L_X0_withAhead_24 x3 x4 o0 T n) _ _ = _
      unfold L_X0_withAhead_24_step
      simp (disch := omega) only [bd_s, nm_s, l_0, l_1, l_2, l_3, l_4, l_5, l_6, l_7, l_8, l_9, l_10, l_16, l_20, l_32, l_44, l_48, l_57, l_59, l_60, l_99, l_100, l_107, l_108, l_112, l_255, l_256, l_300, l_9999, le_nI, lt_nI, eq_nI, cl_nI, ck_nI, gd_d, b2i_z, b2i_o, has_c, has_m, bit_c, within_c, nI_add, if_pos, if_neg, nI_or, nI_and, sh1_nI, pk_sub, gd_ckz]) 8 0 () 512 rfl (by omega) trivial
  obtain ⟨_, h1, -⟩ := key
  exact h1
def Least (v : TV) (s c : Nat) : Prop := Sub s c ∧ Sub c (v.1 4) ∧ Closed v c ∧ ∀ D, Closed v D → Sub s D → Sub c D
theorem ahead_c {T o0 : Ob} {v : TV} (hT : TC T v) (hv : TOK v) {s0 : Nat} (hs0 : Sub s0 (v.1 4)) : ∃ c, f_X0_withAhead o0 T (nI s0) = some (nI c) ∧ Least v s0 c := by
  have htd := hv.td
  have main : ∀ (d j s b n : Nat), j + d = 8 → d < n → Sub s0 s → Sub s (v.1 4) → (∀ D, Closed v D → Sub s0 D → Sub s D) → b < 256 → (s = b → Closed v s) → (s ≠ b → 1 + j ≤ pc s) → ∃ r, L_X0_withAhead_7 o0 T n (nI s) (nI b) (nI j) = some (nI r) ∧ Least v s0 r := by
    intro d
    induction d with
    | zero =>
      intro j s b n h1 h2 h3 h4 h5 hb h6 h7
      obtain ⟨n, rfl⟩ : ∃ i, n = i + 1 := ⟨n - 1, by omega⟩
      have hs : s < 256 := h4.lt htd
      have h8 := pc_8 s hs
      have he : s = b := Classical.byContradiction (fun q => by have := h7 q; omega)
      refine ⟨s, ?_, h3, h4, h6 he, h5⟩
      show L_X0_withAhead_7_step o0 T (L_X0_withAhead_7 o0 T n) (nI s) (nI b) (nI j) = _
      unfold L_X0_withAhead_7_step
      simp (disch := omega) only [l_8, le_nI, if_pos]
    | succ d ih =>
      intro j s b n h1 h2 h3 h4 h5 hb h6 h7
      obtain ⟨n, rfl⟩ : ∃ i, n = i + 1 := ⟨n - 1, by omega⟩
      have hs : s < 256 := h4.lt htd
      have hstep : L_X0_withAhead_7 o0 T (n + 1) (nI s) (nI b) (nI j) = if s = b then some (nI s) else L_X0_withAhead_7 o0 T n (nI (passA v s 8)) (nI s) (nI (j + 1)) := by
        show L_X0_withAhead_7_step o0 T (L_X0_withAhead_7 o0 T n) (nI s) (nI b) (nI j) = _
        unfold L_X0_withAhead_7_step
        have hp := ahead_pass (o0 := o0) hT hv h4 (nI s) (nI j)
        rw [← l_0] at hp
        simp (disch := omega) only [l_8, le_nI, if_neg, eq_nI, hp, bd_s, nm_s, l_1, nI_add]
      rw [hstep]
      by_cases q : s = b
      · rw [if_pos q]
        exact ⟨s, rfl, h3, h4, h6 q, h5⟩
      · rw [if_neg q]
        obtain ⟨a1, a2, a3, a4⟩ := passA_spec (v := v) s 8
        have hl : passA v s 8 < 256 := (a2 h4).lt htd
        refine ih (j + 1) (passA v s 8) s n (by omega) (by omega) (h3.tr a1) (a2 h4) (fun D d1 d2 => a3 D d1 (h5 D d1 d2)) hs (fun e => ?_) (fun e => ?_)
        · rw [e]; exact passA_closed hv h4 e
        · have := pc_lt a1 hl (fun e2 => e e2.symm)
          have := h7 q
          omega
  have hs := hs0.lt htd
  obtain ⟨r, h1, h2⟩ := main 8 0 s0 0 512 rfl (by omega) (Sub.rf _) hs0 (fun _ _ h => h) (by omega) (fun e => by rw [e]; intro k hk; simp at hk) (fun e => by
    have : pc s0 ≠ 0 := fun q => e (pc_0 s0 hs q)
    omega)
  refine ⟨r, ?_, h2⟩
  unfold f_X0_withAhead
  simp only [bd_s, l_0, h1]
/-! the lowest that may, in turn -/
def fnd (p : Nat → Bool) : Nat → Nat → Option Nat
  | 0, _ => none
  | d + 1, k => if p k then some k else fnd p d (k + 1)
theorem fnd_some {p : Nat → Bool} : ∀ d k r, fnd p d k = some r → p r = true ∧ k ≤ r ∧ r < k + d
  | 0, _, _, h => by cases h
  | d + 1, k, r, h => by
    rw [fnd] at h
    by_cases q : p k = true
    · rw [if_pos q] at h; cases h; exact ⟨q, by omega, by omega⟩
    · rw [if_neg q] at h
      obtain ⟨a, b, c⟩ := fnd_some d (k + 1) r h
      exact ⟨a, by omega, by omega⟩
theorem fnd_none {p : Nat → Bool} : ∀ d k, fnd p d k = none → ∀ j, k ≤ j → j < k + d → p j = false
  | 0, _, _, j, h1, h2 => by omega
  | d + 1, k, h, j, h1, h2 => by
    rw [fnd] at h
    by_cases q : p k = true
    · rw [if_pos q] at h; cases h
    · rw [if_neg q] at h
      by_cases q2 : j = k
      · subst q2; simpa using q
      · exact fnd_none d (k + 1) h j (by omega) (by omega)
theorem fnd_more {p : Nat → Bool} : ∀ d e k, d ≤ e → (∀ j, k + d ≤ j → p j = false) → fnd p e k = fnd p d k
  | 0, 0, _, _, _ => rfl
  | 0, e + 1, k, _, h => by
    have h1 : fnd p (e + 1) k = if p k then some k else fnd p e (k + 1) := rfl
    rw [h1, if_neg (by rw [h k (by omega)]; simp), fnd_more 0 e (k + 1) (by omega) (fun j hj => h j (by omega))]; rfl
  | d + 1, 0, _, h1, _ => by omega
  | d + 1, e + 1, k, h1, h => by
    rw [fnd, fnd, fnd_more d e (k + 1) (by omega) (fun j hj => h j (by omega))]
def cand (v : TV) (S dy al left k : Nat) : Bool := S.testBit k && may v k left dy al
def seqU (v : TV) (S dy al : Nat) : Nat → Nat → List Nat
  | 0, _ => []
  | n + 1, left => match fnd (cand v S dy al left) 8 0 with
    | none => []
    | some k => k :: seqU v S dy al n (sd left (2 ^ k))
theorem fnd_nk {v : TV} (hv : TOK v) {S dy al left : Nat} (hl : inK v left) : fnd (cand v S dy al left) 8 0 = fnd (cand v S dy al left) (v.1 3) 0 :=
  fnd_more _ _ _ hv.2.2.2.1 (fun j hj => by
    have : left.testBit j = false := by
      cases q : left.testBit j
      · rfl
      · have := hl.tb q; omega
    unfold cand may; rw [this]; simp)
def Same (o o' : Ob) : Prop := o'.1 = o.1 ∧ ∀ i, i < 21 → o'.2 i = o.2 i
theorem Same.rf (o : Ob) : Same o o := ⟨rfl, fun _ _ => rfl⟩
theorem Same.tr {a b c : Ob} (h1 : Same a b) (h2 : Same b c) : Same a c := ⟨h2.1.trans h1.1, fun i hi => (h2.2 i hi).trans (h1.2 i hi)⟩
theorem Same.set {o : Ob} {k i : Nat} {x : Int32} (hk : 21 ≤ k) : Same o (sA o k i x) := ⟨rfl, fun j hj => by
  show (if j = k then _ else _) = _
  rw [if_neg (by omega)]⟩
theorem Same.m0 {o o' : Ob} {v : TV} (h : Same o o') (hM : M0 o v) : M0 o' v := by
  unfold M0 at hM ⊢
  rw [h.2 2 (by omega), h.2 3 (by omega), h.2 4 (by omega), h.2 5 (by omega), h.2 11 (by omega), h.2 12 (by omega), h.2 6 (by omega), h.2 7 (by omega), h.2 8 (by omega), h.2 9 (by omega), h.2 10 (by omega)]
  exact hM
