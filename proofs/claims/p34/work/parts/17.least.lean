/-! ===== least (own text) ===== -/
def Good (v : TV) (dy al A : Nat) : Prop := (seqU v A dy al 9 (v.1 4)).length = pc A
theorem good_iff {v : TV} (hv : TOK v) {dy al A G : Nat} (hA : Sub A (v.1 4)) (hG : Inv v dy al G) (hG2 : Stuck v dy al G) : Good v dy al A ↔ (Closed v A ∧ A &&& G = 0) := by
  have htd := hv.td
  have h0 := pc_8 (v.1 4) htd
  obtain ⟨i1, i2, i3, i4, i5, i6⟩ := seqU_spec hv (S := A) (dy := dy) (al := al) 9 (v.1 4) (Inv.start v dy al) (by omega)
  have hE : remL (seqU v A dy al 9 (v.1 4)) (v.1 4) < 256 := i1.1.lt htd
  have hAl := hA.lt htd
  generalize hEe : remL (seqU v A dy al 9 (v.1 4)) (v.1 4) = E at i1 i2 i3 i4 i5 hE
  have hB : Sub (sd (v.1 4) E) A := fun j hj => by
    rw [sd_tb htd, Bool.and_eq_true] at hj
    exact i5 j hj.1 (by simpa using hj.2)
  have hpart := pc_part htd i2
  have hGE : Sub G E := i1.2.1 G hG.1 hG2
  unfold Good
  constructor
  · intro h
    have he : sd (v.1 4) E = A := Classical.byContradiction (fun q => by have := pc_lt hB hAl q; omega)
    constructor
    · intro k hk j hj
      rw [← he, sd_tb htd, Bool.and_eq_true] at hk
      obtain ⟨s1, s2⟩ := i1.2.2 k hk.1 (by simpa using hk.2)
      rw [way_tb] at hj
      simp at hj
      rw [← he, sd_tb htd, hj.2.2.1]
      cases q : E.testBit j
      · rfl
      · rw [s2 j hj.2.1 q] at hj; simp at hj
    · rw [z_tb]
      intro j
      rw [Nat.testBit_and]
      cases q : A.testBit j
      · rfl
      · rw [← he, sd_tb htd, Bool.and_eq_true] at q
        cases q2 : G.testBit j
        · rfl
        · have := hGE j q2
          rw [this] at q; simp at q
  · intro ⟨hC, hd⟩
    rw [z_tb] at hd
    have hR : A &&& E = 0 := by
      have hRs : Sub (A &&& E) (v.1 4) := fun j hj => by rw [Nat.testBit_and, Bool.and_eq_true] at hj; exact hA j hj.1
      have hRl := hRs.lt htd
      have hst : Stuck v dy al (A &&& E) := by
        intro k
        cases q : may v k (A &&& E) dy al
        · rfl
        · obtain ⟨q1, q2, q3⟩ := (may_t hRl).mp q
          rw [Nat.testBit_and, Bool.and_eq_true] at q1
          have h1 := i3 k
          unfold cand at h1
          rw [q1.1, Bool.true_and] at h1
          have h2 : may v k E dy al = true := by
            rw [may_t hE]
            refine ⟨q1.2, q2, fun j hj hb => ?_⟩
            cases q4 : stops v k j
            · rfl
            · have hjt := i2 j hb
              have hjA : A.testBit j = true := hC k q1.1 j (by rw [way_tb, hjt, q4]; simp [hj]; exact tb_lt htd hjt)
              have := q3 j hj (by rw [Nat.testBit_and, hjA, hb]; rfl)
              rw [q4] at this; cases this
          rw [h2] at h1; cases h1
      have hRG := hG.2.1 _ hRs hst
      rw [z_tb]
      intro j
      cases q : (A &&& E).testBit j
      · rfl
      · have h1 := hRG j q
        rw [Nat.testBit_and, Bool.and_eq_true] at q
        have h2 := hd j
        rw [Nat.testBit_and, q.1, h1] at h2; cases h2
    rw [z_tb] at hR
    have he : sd (v.1 4) E = A := hB.anti (fun j hj => by
      rw [sd_tb htd, hA j hj]
      have := hR j
      rw [Nat.testBit_and, hj] at this
      simp at this
      simp [this])
    have he2 : pc (sd (v.1 4) E) = pc A := by rw [he]
    omega
/-- what stands between nothing and all that stays is closed -/
theorem rest_closed {v : TV} (hv : TOK v) {dy al G : Nat} (hG : Inv v dy al G) : Closed v (sd (v.1 4) G) := by
  have htd := hv.td
  intro k hk j hj
  rw [sd_tb htd, Bool.and_eq_true] at hk
  obtain ⟨s1, s2⟩ := hG.2.2 k hk.1 (by simpa using hk.2)
  rw [way_tb] at hj
  simp at hj
  rw [sd_tb htd, hj.2.2.1]
  cases q : G.testBit j
  · rfl
  · rw [s2 j hj.2.1 q] at hj; simp at hj
def Cnd (v : TV) (dy al s A : Nat) : Prop := Sub s A ∧ Sub A (v.1 4) ∧ Good v dy al A
def Best (v : TV) (dy al s n : Nat) : Option Nat → Prop
  | none => ∀ A, A < n → ¬ Cnd v dy al s A
  | some B => B < n ∧ Cnd v dy al s B ∧ ∀ A, A < n → Cnd v dy al s A → pc B ≤ pc A
def encB : Option Nat → Int32
  | none => -4
  | some B => nI B
theorem least_step {o : Ob} {v : TV} (hM : M0 o v) (hv : TOK v) {s A n : Nat} {b : Option Nat} (hs : s < 256) (hA : A < 2 ^ v.1 3) (hb : Best v (v.1 5) (v.1 1) s A b) : ∃ b' o', L_X8_least_5 (nI s) (n + 1) (encB b) (nI A) o = L_X8_least_5 (nI s) n (encB b') (nI (A + 1)) o' ∧ Same o o' ∧ Best v (v.1 5) (v.1 1) s (A + 1) b' := by
  have h8 := hv.2.2.2.1
  have hdy := hv.2.2.2.2.2.1
  have hal := hv.al
  have htd := hv.td
  have hA8 : A < 256 := Nat.lt_of_lt_of_le hA (Nat.pow_le_pow_right (n := 2) (i := v.1 3) (j := 8) (by omega) h8)
  have hpw : 2 ^ v.1 3 ≤ 256 := Nat.pow_le_pow_right (n := 2) (i := v.1 3) (j := 8) (by omega) h8
  have keep : ¬ Cnd v (v.1 5) (v.1 1) s A → Best v (v.1 5) (v.1 1) s (A + 1) b := by
    intro hn
    cases b with
    | none => intro A' h1 h2; by_cases q : A' = A
              · subst q; exact hn h2
              · exact hb A' (by omega) h2
    | some B => exact ⟨by have := hb.1; omega, hb.2.1, fun A' h1 h2 => by
                  by_cases q : A' = A
                  · subst q; exact absurd h2 hn
                  · exact hb.2.2 A' (by omega) h2⟩
  have e1 := nI_andn (v.1 4) hA8
  have e2 := nI_andn A hs
  have l1 := sd_lt8 (v.1 4) hA8
  have l2 := sd_lt8 A hs
  have hst : L_X8_least_5 (nI s) (n + 1) (encB b) (nI A) o = L_X8_least_5_step (nI s) (L_X8_least_5 (nI s) n) (encB b) (nI A) o := rfl
  rw [hst]
  unfold L_X8_least_5_step J_X8_least_53l5 J_X8_least_57l5
  rw [hM.2.2.2.1, hM.2.2.2.2.1]
  have c1 : ¬ ((1 : Int32) <<< (nI (v.1 3) &&& 31) ≤ nI A) := by
    rw [l_1, sh1_nI (by omega), nI_leI (by omega) (by omega)]; omega
  rw [if_neg c1, e1, e2]
  by_cases q1 : sd A (v.1 4) = 0
  · have hsub := (sd_zero hA8).mp q1
    rw [q1, if_pos (show nI 0 = (0 : Int32) from rfl)]
    by_cases q2 : sd s A = 0
    · have hsub2 := (sd_zero hs).mp q2
      rw [q2, if_pos (show nI 0 = (0 : Int32) from rfl)]
      obtain ⟨o', u1, u2, -⟩ := undoSet_m hM hv (S := A) (dy := v.1 5) (al := v.1 1) hA8 (by omega) (by omega)
      have hlen : (seqU v A (v.1 5) (v.1 1) 9 (v.1 4)).length ≤ 9 := by
        have h0 := pc_8 (v.1 4) htd
        obtain ⟨-, -, -, i4, -, -⟩ := seqU_spec hv (S := A) (dy := v.1 5) (al := v.1 1) 9 (v.1 4) (Inv.start v _ _) (by omega)
        omega
      have hpA := pc_8 A hA8
      have hgood : ∀ self x2, J_X8_least_58l5 self (1 : Int32) (nI s) x2 (nI A) o = if (seqU v A (v.1 5) (v.1 1) 9 (v.1 4)).length = pc A then self (nI A) (nI (A + 1)) o' else self x2 (nI (A + 1)) o' := by
        intro self x2
        unfold J_X8_least_58l5
        rw [if_neg (by decide), hM.2.1, hM.2.2.2.2.2.1, u1]
        simp (disch := omega) only [bd_s, nm_s, bits_m A hA8, eq_nI, l_1, nI_add]
      have take : ∀ (hbet : ∀ B, b = some B → pc A < pc B), ∃ b' o', (if (seqU v A (v.1 5) (v.1 1) 9 (v.1 4)).length = pc A then L_X8_least_5 (nI s) n (nI A) (nI (A + 1)) o' else L_X8_least_5 (nI s) n (encB b) (nI (A + 1)) o') = L_X8_least_5 (nI s) n (encB b') (nI (A + 1)) o' ∧ Same o o' ∧ Best v (v.1 5) (v.1 1) s (A + 1) b' := by
        intro hbet
        by_cases q3 : (seqU v A (v.1 5) (v.1 1) 9 (v.1 4)).length = pc A
        · refine ⟨some A, o', by rw [if_pos q3]; rfl, u2, by omega, ⟨hsub2, hsub, q3⟩, fun A' h1 h2 => ?_⟩
          by_cases q : A' = A
          · subst q; exact Nat.le_refl _
          · cases b with
            | none => exact absurd h2 (hb A' (by omega))
            | some B => have := hb.2.2 A' (by omega) h2; have := hbet B rfl; omega
        · exact ⟨b, o', by rw [if_neg q3], u2, keep (fun h => q3 h.2.2)⟩
      cases b with
      | none =>
        rw [show encB none = (-4 : Int32) from rfl, if_pos (by decide), hgood]
        obtain ⟨b', o2, t1, t2, t3⟩ := take (fun B h => by cases h)
        by_cases q3 : (seqU v A (v.1 5) (v.1 1) 9 (v.1 4)).length = pc A
        · refine ⟨some A, o', by rw [if_pos q3]; rfl, u2, by omega, ⟨hsub2, hsub, q3⟩, fun A' h1 h2 => ?_⟩
          by_cases q : A' = A
          · subst q; exact Nat.le_refl _
          · exact absurd h2 (hb A' (by omega))
        · exact ⟨none, o', by rw [if_neg q3]; rfl, u2, keep (fun h => q3 h.2.2)⟩
      | some B =>
        have hB1 : B < A := hb.1
        have hB8 : B < 256 := by omega
        have hpB := pc_8 B hB8
        rw [show encB (some B) = nI B from rfl, if_neg (nI_pos (by omega)), bits_m A hA8, bits_m B hB8]
        simp only [bd_s]
        by_cases q4 : pc B ≤ pc A
        · rw [if_pos ((nI_leI (by omega) (by omega)).mpr q4)]
          unfold J_X8_least_58l5
          rw [if_pos rfl]
          refine ⟨some B, o, by rw [nm_s, l_1, nI_add]; rfl, Same.rf o, by omega, hb.2.1, fun A' h1 h2 => ?_⟩
          by_cases q : A' = A
          · subst q; exact q4
          · exact hb.2.2 A' (by omega) h2
        · rw [if_neg (fun h => q4 ((nI_leI (by omega) (by omega)).mp h)), hgood]
          by_cases q3 : (seqU v A (v.1 5) (v.1 1) 9 (v.1 4)).length = pc A
          · refine ⟨some A, o', by rw [if_pos q3]; rfl, u2, by omega, ⟨hsub2, hsub, q3⟩, fun A' h1 h2 => ?_⟩
            by_cases q : A' = A
            · subst q; exact Nat.le_refl _
            · have := hb.2.2 A' (by omega) h2; omega
          · exact ⟨some B, o', by rw [if_neg q3]; rfl, u2, keep (fun h => q3 h.2.2)⟩
    · rw [if_neg (show ¬ (nI (sd s A) = (0 : Int32)) from fun h => q2 ((nI_eq (by omega) (by omega)).mp h))]
      unfold J_X8_least_58l5
      rw [if_pos rfl]
      exact ⟨b, o, by rw [nm_s, l_1, nI_add], Same.rf o, keep (fun h => q2 ((sd_zero hs).mpr h.1))⟩
  · rw [if_neg (show ¬ (nI (sd A (v.1 4)) = (0 : Int32)) from fun h => q1 ((nI_eq (by omega) (by omega)).mp h))]
    unfold J_X8_least_58l5
    rw [if_pos rfl]
    exact ⟨b, o, by rw [nm_s, l_1, nI_add], Same.rf o, keep (fun h => q1 ((sd_zero hA8).mpr h.2.1))⟩
theorem least_m {o : Ob} {v : TV} (hM : M0 o v) (hv : TOK v) {s : Nat} (hs : s < 256) : ∃ b o', f_X8_least o (nI s) = some (encB b, o') ∧ Same o o' ∧ Best v (v.1 5) (v.1 1) s (2 ^ v.1 3) b := by
  have h8 := hv.2.2.2.1
  have hpw : 2 ^ v.1 3 ≤ 256 := Nat.pow_le_pow_right (n := 2) (i := v.1 3) (j := 8) (by omega) h8
  have main : ∀ (d A n : Nat) (b : Option Nat) (o : Ob), A + d = 2 ^ v.1 3 → d < n → M0 o v → Best v (v.1 5) (v.1 1) s A b → ∃ b' o', L_X8_least_5 (nI s) n (encB b) (nI A) o = some (encB b', o') ∧ Same o o' ∧ Best v (v.1 5) (v.1 1) s (2 ^ v.1 3) b' := by
    intro d
    induction d with
    | zero =>
      intro A n b o h1 h2 hM hb
      obtain ⟨n, rfl⟩ : ∃ i, n = i + 1 := ⟨n - 1, by omega⟩
      have hA : A = 2 ^ v.1 3 := by omega
      subst hA
      refine ⟨b, o, ?_, Same.rf o, hb⟩
      show L_X8_least_5_step (nI s) (L_X8_least_5 (nI s) n) (encB b) _ o = _
      unfold L_X8_least_5_step
      rw [hM.2.2.2.1, if_pos (by rw [l_1, sh1_nI (by omega), nI_leI (by omega) (by omega)]; omega)]
    | succ d ih =>
      intro A n b o h1 h2 hM hb
      obtain ⟨n, rfl⟩ : ∃ i, n = i + 1 := ⟨n - 1, by omega⟩
      obtain ⟨b', o', e1, e2, e3⟩ := least_step (n := n) hM hv hs (by omega) hb
      rw [e1]
      obtain ⟨b2, o2, f1, f2, f3⟩ := ih (A + 1) n b' o' (by omega) (by omega) (e2.m0 hM) e3
      exact ⟨b2, o2, f1, e2.tr f2, f3⟩
  obtain ⟨b, o', h1, h2, h3⟩ := main (2 ^ v.1 3) 0 512 none o (by omega) (by omega) hM (fun A h => by omega)
  refine ⟨b, o', ?_, h2, h3⟩
  unfold f_X8_least
  rw [show (-4 : Int32) = encB none from rfl, l_0, h1]; rfl
/-- what both sides find ahead of a set: the least closed one, if nothing of it stays -/
theorem least_both {T o0 o : Ob} {v : TV} (hT : TC T v) (hM : M0 o v) (hv : TOK v) {s : Nat} (hs : Sub s (v.1 4)) :
    ∃ G c b o', f_X0_stuckToday o0 T = some (nI G) ∧ f_X0_withAhead o0 T (nI s) = some (nI c) ∧ f_X8_least o (nI s) = some (encB b, o') ∧ Same o o' ∧ G < 256 ∧ Sub c (v.1 4) ∧ Sub s c ∧ (s &&& G = 0 → b = some c ∧ Good v (v.1 5) (v.1 1) c) ∧ (s &&& G ≠ 0 → b = none) := by
  have htd := hv.td
  have hal := hv.al
  have hdy := hv.2.2.2.2.2.1
  have h8 := hv.2.2.2.1
  obtain ⟨G, g1, g2, g3⟩ := stuck_c (o0 := o0) hT hv (dy := v.1 5) (al := v.1 1) (by omega) (by omega)
  obtain ⟨c, c1, c2, c3, c4, c5⟩ := ahead_c (o0 := o0) hT hv hs
  obtain ⟨b, o', b1, b2, b3⟩ := least_m hM hv (hs.lt htd)
  refine ⟨G, c, b, o', ?_, c1, b1, b2, g2.1.lt htd, c3, c2, fun h0 => ?_, fun h0 => ?_⟩
  · unfold f_X0_stuckToday
    rw [hT.2.2.2.2.2.1, hT.2.1, g1]; rfl
  · -- nothing of it stays
    rw [z_tb] at h0
    have hsub : Sub c (sd (v.1 4) G) := c5 _ (rest_closed hv g2) (fun j hj => by
      rw [sd_tb htd, hs j hj]
      have := h0 j
      rw [Nat.testBit_and, hj] at this
      simp at this
      simp [this])
    have hcG : c &&& G = 0 := by
      rw [z_tb]
      intro j
      rw [Nat.testBit_and]
      cases q : c.testBit j
      · rfl
      · have := hsub j q
        rw [sd_tb htd, Bool.and_eq_true] at this
        simpa using this.2
    have hgc := (good_iff hv c3 g2 g3).mpr ⟨c4, hcG⟩
    have hcc : Cnd v (v.1 5) (v.1 1) s c := ⟨c2, c3, hgc⟩
    have hcl : c < 2 ^ v.1 3 := c3.inK hv.2.2.2.2.1
    cases b with
    | none => exact absurd hcc (b3 c hcl)
    | some B =>
      obtain ⟨k1, k2, k3⟩ := b3
      have hB := (good_iff hv k2.2.1 g2 g3).mp k2.2.2
      have hcB := c5 B hB.1 k2.1
      have hle := k3 c hcl hcc
      have : c = B := Classical.byContradiction (fun q => by have := pc_lt hcB (k2.2.1.lt htd) q; omega)
      subst this
      exact ⟨rfl, hgc⟩
  · cases b with
    | none => rfl
    | some B =>
      obtain ⟨k1, k2, k3⟩ := b3
      have hB := (good_iff hv k2.2.1 g2 g3).mp k2.2.2
      exfalso
      apply h0
      rw [z_tb]
      intro j
      rw [Nat.testBit_and]
      cases q : s.testBit j
      · rfl
      · have := (z_tb.mp hB.2) j
        rw [Nat.testBit_and, k2.1 j q] at this
        exact this
