/-! ===== what stays, what has to go ahead (own text) ===== -/
def pcn (s : Nat) : Nat → Nat
  | 0 => 0
  | n + 1 => pcn s n + (if s.testBit n then 1 else 0)
def pc (s : Nat) : Nat := pcn s 8
theorem pc_sd : ∀ s, s < 256 → ∀ k, k < 8 → s.testBit k = true → pc (sd s (2 ^ k)) + 1 = pc s := by decide +kernel
theorem pc_8 : ∀ s, s < 256 → pc s ≤ 8 := by decide +kernel
theorem pc_0 : ∀ s, s < 256 → pc s = 0 → s = 0 := by decide +kernel
theorem bits_m : ∀ s, s < 256 → f_X8_bits (nI s) = some (nI (pc s)) := by decide +kernel
theorem bits_c : ∀ s, s < 256 → f_J6_bitCount_0f7a4 (nI s) = some (nI (pc s)) := by decide +kernel
def Sub (a b : Nat) : Prop := ∀ j, a.testBit j = true → b.testBit j = true
theorem Sub.rf (a : Nat) : Sub a a := fun _ h => h
theorem Sub.tr {a b c : Nat} (h1 : Sub a b) (h2 : Sub b c) : Sub a c := fun j h => h2 j (h1 j h)
theorem Sub.anti {a b : Nat} (h1 : Sub a b) (h2 : Sub b a) : a = b := by
  apply Nat.eq_of_testBit_eq
  intro j
  cases q1 : a.testBit j
  · cases q2 : b.testBit j
    · rfl
    · rw [h2 j q2] at q1; cases q1
  · rw [h1 j q1]
theorem Sub.lt {a b : Nat} (h : Sub a b) (hb : b < 256) : a < 256 := by
  apply Nat.lt_pow_two_of_testBit (n := 8)
  intro i hi
  cases q : a.testBit i
  · rfl
  · have := h i q
    rw [tb_hi hb hi] at this; cases this
theorem sd_zero {a b : Nat} (ha : a < 256) : sd a b = 0 ↔ Sub a b := by
  rw [z_tb]
  constructor
  · intro h j hj
    have h1 := h j
    rw [sd_tb ha, hj] at h1
    simpa using h1
  · intro h j
    rw [sd_tb ha]
    cases q : a.testBit j
    · rfl
    · rw [h j q]; rfl
theorem Sub.inK {v : TV} {a b : Nat} (h : Sub a b) (hb : inK v b) : inK v a := inK.of (fun j hj => hb.tb (h j hj))
theorem sd_sub {a b : Nat} (ha : a < 256) : Sub (sd a b) a := fun j h => by
  rw [sd_tb ha] at h
  simp at h
  exact h.1
theorem sd1_tb {a k j : Nat} (ha : a < 256) : (sd a (2 ^ k)).testBit j = (a.testBit j && decide (k ≠ j)) := by
  rw [sd_tb ha, pw_tb]
  by_cases h : k = j <;> simp [h]
theorem way_0 {v : TV} {k s : Nat} (hs : s < 256) : way v k s = 0 ↔ ∀ j, j ≠ k → s.testBit j = true → stops v k j = false := by
  rw [z_tb]
  constructor
  · intro h j hj hb
    have h1 := h j
    rw [way_tb, hb] at h1
    have h2 := tb_lt hs hb
    simpa [h2, hj] using h1
  · intro h j
    rw [way_tb]
    by_cases q : j = k
    · simp [q]
    · cases q1 : s.testBit j
      · simp
      · simp [h j q q1]
theorem may_t {v : TV} {k s dy al : Nat} (hs : s < 256) : may v k s dy al = true ↔ (s.testBit k = true ∧ stat v k dy al = true ∧ ∀ j, j ≠ k → s.testBit j = true → stops v k j = false) := by
  unfold may
  rw [Bool.and_eq_true, Bool.and_eq_true, decide_eq_true_iff, way_0 hs]
theorem may_mono {v : TV} {k s r dy al : Nat} (hs : s < 256) (h : Sub r s) (hk : r.testBit k = true) (hm : may v k s dy al = true) : may v k r dy al = true := by
  rw [may_t (h.lt hs)]
  rw [may_t hs] at hm
  exact ⟨hk, hm.2.1, fun j hj hb => hm.2.2 j hj (h j hb)⟩
def Stuck (v : TV) (dy al s : Nat) : Prop := ∀ k, may v k s dy al = false
/-- on the way from all that is tied to what stays -/
def Inv (v : TV) (dy al s : Nat) : Prop := Sub s (v.1 4) ∧ (∀ r, Sub r (v.1 4) → Stuck v dy al r → Sub r s) ∧ ∀ k, (v.1 4).testBit k = true → s.testBit k = false → stat v k dy al = true ∧ ∀ j, j ≠ k → s.testBit j = true → stops v k j = false
theorem Inv.start (v : TV) (dy al : Nat) : Inv v dy al (v.1 4) := ⟨Sub.rf _, fun _ h _ => h, fun k h1 h2 => by rw [h1] at h2; cases h2⟩
theorem Inv.step {v : TV} (hv : TOK v) {dy al s k : Nat} (h : Inv v dy al s) (hm : may v k s dy al = true) : Inv v dy al (sd s (2 ^ k)) := by
  have hs : s < 256 := h.1.lt hv.td
  have hm2 := (may_t hs).mp hm
  refine ⟨(sd_sub hs).tr h.1, fun r h1 h2 j hj => ?_, fun i h1 h2 => ?_⟩
  · rw [sd1_tb hs, h.2.1 r h1 h2 j hj]
    by_cases q : k = j
    · subst q
      have := may_mono hs (h.2.1 r h1 h2) hj hm
      rw [h2 k] at this; cases this
    · simp [q]
  · rw [sd1_tb hs] at h2
    by_cases q : k = i
    · subst q
      exact ⟨hm2.2.1, fun j hj hb => hm2.2.2 j hj (sd_sub hs j hb)⟩
    · have h3 : s.testBit i = false := by simpa [q] using h2
      obtain ⟨h4, h5⟩ := h.2.2 i h1 h3
      exact ⟨h4, fun j hj hb => h5 j hj (sd_sub hs j hb)⟩
theorem Inv.uniq {v : TV} {dy al s t : Nat} (h1 : Inv v dy al s) (h2 : Stuck v dy al s) (h3 : Inv v dy al t) (h4 : Stuck v dy al t) : s = t :=
  (h3.2.1 s h1.1 h2).anti (h1.2.1 t h3.1 h4)
theorem stuck_z (v : TV) (dy al : Nat) : Stuck v dy al 0 := fun k => by simp [may]
/-- one pass of the class, from the highest down -/
def passD (v : TV) (dy al : Nat) : Nat → Nat → Nat
  | 0, s => s
  | k + 1, s => passD v dy al k (if may v k s dy al then sd s (2 ^ k) else s)
theorem passD_spec {v : TV} (hv : TOK v) {dy al : Nat} : ∀ (n s : Nat), n ≤ 8 → Inv v dy al s → Inv v dy al (passD v dy al n s) ∧ Sub (passD v dy al n s) s ∧ (passD v dy al n s = s → ∀ k, k < n → may v k s dy al = false) ∧ (passD v dy al n s ≠ s → pc (passD v dy al n s) < pc s) ∧ pc (passD v dy al n s) ≤ pc s
  | 0, s, _, h => ⟨h, Sub.rf _, fun _ k hk => by omega, fun h => absurd rfl h, Nat.le_refl _⟩
  | k + 1, s, hn, h => by
    have hs : s < 256 := h.1.lt hv.td
    rw [passD]
    by_cases q : may v k s dy al = true
    · rw [if_pos q]
      have hk : s.testBit k = true := ((may_t hs).mp q).1
      have h2 := h.step hv q
      obtain ⟨a, b, c, d, e⟩ := passD_spec hv k (sd s (2 ^ k)) (by omega) h2
      have hp := pc_sd s hs k (by omega) hk
      refine ⟨a, b.tr (sd_sub hs), fun e2 => ?_, fun _ => by omega, by omega⟩
      rw [e2] at e; omega
    · rw [if_neg q]
      obtain ⟨a, b, c, d, e⟩ := passD_spec hv k s (by omega) h
      refine ⟨a, b, fun e2 j hj => ?_, d, e⟩
      by_cases q2 : j = k
      · subst q2; simpa using q
      · exact c e2 j (by omega)
theorem stuck_of {v : TV} (hv : TOK v) {dy al s : Nat} (h : Inv v dy al s) (h2 : ∀ k, k < 8 → may v k s dy al = false) : Stuck v dy al s := by
  intro k
  by_cases q : k < 8
  · exact h2 k q
  · have hs : s < 256 := h.1.lt hv.td
    unfold may
    rw [tb_hi hs (by omega)]; rfl
theorem passD_stuck {v : TV} (hv : TOK v) {dy al s : Nat} (h : Inv v dy al s) (h2 : passD v dy al 8 s = s) : Stuck v dy al s :=
  stuck_of hv h ((passD_spec hv 8 s (by omega) h).2.2.1 h2)
theorem pass_c {T o0 : Ob} {v : TV} (hT : TC T v) (hv : TOK v) {dy al : Nat} (hd : dy < 256) (ha : al < 256) (x4 x5 : Int32) :
    ∀ (k s n : Nat), k ≤ 8 → Sub s (v.1 4) → k < n → L_X0_stuck_34 (nI dy) (nI al) x4 x5 o0 T n (nI s) (nI k - nI 1) = some (nI (passD v dy al k s)) := by
  intro k
  induction k with
  | zero =>
    intro s n _ _ hn
    obtain ⟨n, rfl⟩ : ∃ i, n = i + 1 := ⟨n - 1, by omega⟩
    show L_X0_stuck_34_step (nI dy) (nI al) x4 x5 o0 T (L_X0_stuck_34 (nI dy) (nI al) x4 x5 o0 T n) (nI s) _ = _
    unfold L_X0_stuck_34_step
    rw [if_pos (by decide)]; rfl
  | succ k ih =>
    intro s n hk hs hn
    obtain ⟨n, rfl⟩ : ∃ i, n = i + 1 := ⟨n - 1, by omega⟩
    have hsl : s < 256 := hs.lt hv.td
    have hsk : inK v s := hs.inK hv.2.2.2.2.1
    show L_X0_stuck_34_step (nI dy) (nI al) x4 x5 o0 T (L_X0_stuck_34 (nI dy) (nI al) x4 x5 o0 T n) (nI s) _ = _
    unfold L_X0_stuck_34_step
    rw [passD, pk_sub (by omega), show k + 1 - 1 = k from rfl, if_neg (nI_pos (by omega))]
    have em : f_X6_mayBe T (nI k) (nI s) (nI dy) (nI al) = some (b2i (may v k s dy al)) := by
      by_cases q : k < v.1 3
      · exact may_c hT hv q hsk hd ha
      · rw [may_out hT hv _ _ _ q (by omega)]
        have : s.testBit k = false := by
          cases q2 : s.testBit k
          · rfl
          · exact absurd (hsk.tb q2) q
        unfold may; rw [this]; rfl
    have e1 : nI k + (-1 : Int32) = nI k - nI 1 := by rw [Int32.sub_eq_add_neg]; rfl
    simp (disch := omega) only [em, bd_s, nm_s, l_0, b2i_z, bit_c, e1, nI_andn s.succ]
    cases q : may v k s dy al
    · simp; exact ih s n (by omega) hs (by omega)
    · have e2 := nI_andn (2 ^ k) hsl
      simp only [Bool.true_eq_false, if_false, if_true, e2]
      exact ih (sd s (2 ^ k)) n (by omega) ((sd_sub hsl).tr hs) (by omega)
theorem stuck_c {T o0 : Ob} {v : TV} (hT : TC T v) (hv : TOK v) {dy al : Nat} (hd : dy < 256) (ha : al < 256) :
    ∃ s, f_X0_stuck o0 T (nI dy) (nI al) = some (nI s) ∧ Inv v dy al s ∧ Stuck v dy al s := by
  have main : ∀ (d j s b n : Nat), j + d = 8 → d < n → Inv v dy al s → b < 256 → (s = b → Stuck v dy al s) → pc s + j ≤ 8 → ∃ r, L_X0_stuck_14 (nI dy) (nI al) o0 T n (nI s) (nI b) (nI j) = some (nI r) ∧ Inv v dy al r ∧ Stuck v dy al r := by
    intro d
    induction d with
    | zero =>
      intro j s b n h1 h2 h3 h4 h5 h6
      obtain ⟨n, rfl⟩ : ∃ i, n = i + 1 := ⟨n - 1, by omega⟩
      have hs : s < 256 := h3.1.lt hv.td
      have hz := pc_0 s hs (by omega)
      refine ⟨s, ?_, h3, by rw [hz]; exact stuck_z v dy al⟩
      show L_X0_stuck_14_step (nI dy) (nI al) o0 T (L_X0_stuck_14 (nI dy) (nI al) o0 T n) (nI s) (nI b) (nI j) = _
      unfold L_X0_stuck_14_step
      simp (disch := omega) only [l_8, le_nI, if_pos]
    | succ d ih =>
      intro j s b n h1 h2 h3 h4 h5 h6
      obtain ⟨n, rfl⟩ : ∃ i, n = i + 1 := ⟨n - 1, by omega⟩
      have hs : s < 256 := h3.1.lt hv.td
      have hstep : L_X0_stuck_14 (nI dy) (nI al) o0 T (n + 1) (nI s) (nI b) (nI j) = if s = b then some (nI s) else L_X0_stuck_14 (nI dy) (nI al) o0 T n (nI (passD v dy al 8 s)) (nI s) (nI (j + 1)) := by
        show L_X0_stuck_14_step (nI dy) (nI al) o0 T (L_X0_stuck_14 (nI dy) (nI al) o0 T n) (nI s) (nI b) (nI j) = _
        unfold L_X0_stuck_14_step
        have hp := pass_c (o0 := o0) hT hv hd ha (nI s) (nI j) 8 s 512 (by omega) h3.1 (by omega)
        rw [show nI 8 - nI 1 = (7 : Int32) from rfl] at hp
        simp (disch := omega) only [l_8, le_nI, if_neg, eq_nI, hp, bd_s, nm_s, l_1, nI_add]
      rw [hstep]
      by_cases q : s = b
      · rw [if_pos q]
        exact ⟨s, rfl, h3, h5 q⟩
      · rw [if_neg q]
        obtain ⟨a1, a2, a3, a4, a5⟩ := passD_spec hv 8 s (by omega) h3
        by_cases q2 : passD v dy al 8 s = s
        · -- nothing went: the next look ends it
          have hst := passD_stuck hv h3 q2
          rw [q2]
          cases n with
          | zero => omega
          | succ n =>
            refine ⟨s, ?_, h3, hst⟩
            show L_X0_stuck_14_step (nI dy) (nI al) o0 T (L_X0_stuck_14 (nI dy) (nI al) o0 T n) (nI s) (nI s) (nI (j + 1)) = _
            unfold L_X0_stuck_14_step
            by_cases q3 : (8 : Int32) ≤ nI (j + 1)
            · rw [if_pos q3]
            · rw [if_neg q3, if_pos rfl]
        · have := a4 q2
          exact ih (j + 1) (passD v dy al 8 s) s n (by omega) (by omega) a1 hs (fun e => absurd e q2) (by omega)
  have h0 := pc_8 (v.1 4) hv.td
  obtain ⟨r, h1, h2, h3⟩ := main 8 0 (v.1 4) 0 512 rfl (by omega) (Inv.start v dy al) (by omega) (fun e => by rw [e]; exact stuck_z v dy al) (by omega)
  refine ⟨r, ?_, h2, h3⟩
  unfold f_X0_stuck
  rw [hT.2.2.2.2.1]
  simp only [nm_s, bd_s, l_0, h1]
