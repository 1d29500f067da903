/-! ===== the reference: undoSet, everBy, least (own text) ===== -/
def remL : List Nat → Nat → Nat
  | [], s => s
  | k :: L, s => remL L (sd s (2 ^ k))
/-- what undoing as much as can be of S comes to -/
theorem seqU_spec {v : TV} (hv : TOK v) {S dy al : Nat} : ∀ (n left : Nat), Inv v dy al left → pc left < n →
    Inv v dy al (remL (seqU v S dy al n left) left) ∧ Sub (remL (seqU v S dy al n left) left) left ∧ (∀ k, cand v S dy al (remL (seqU v S dy al n left) left) k = false) ∧ (seqU v S dy al n left).length + pc (remL (seqU v S dy al n left) left) = pc left ∧ (∀ j, left.testBit j = true → (remL (seqU v S dy al n left) left).testBit j = false → S.testBit j = true) ∧ (∀ k, k ∈ seqU v S dy al n left → k < v.1 3)
  | 0, _, _, h => by omega
  | n + 1, left, hI, hp => by
    have hs : left < 256 := hI.1.lt hv.td
    have hk : inK v left := hI.1.inK hv.2.2.2.2.1
    rw [seqU]
    cases hf : fnd (cand v S dy al left) 8 0 with
    | none =>
      refine ⟨hI, Sub.rf _, fun k => ?_, by simp [remL], fun j h1 h2 => ?_, fun k hk => by simp at hk⟩
      · show cand v S dy al left k = false
        by_cases q : k < 8
        · exact fnd_none 8 0 hf k (by omega) (by omega)
        · unfold cand may
          rw [tb_hi hs (by omega)]; simp
      · have h3 : left.testBit j = false := h2
        rw [h1] at h3; cases h3
    | some k =>
      obtain ⟨a, b, c⟩ := fnd_some 8 0 k hf
      unfold cand at a
      rw [Bool.and_eq_true] at a
      have hm := (may_t hs).mp a.2
      have hps := pc_sd left hs k (by omega) hm.1
      obtain ⟨i1, i2, i3, i4, i5, i6⟩ := seqU_spec hv (S := S) n (sd left (2 ^ k)) (hI.step hv a.2) (by omega)
      refine ⟨i1, i2.tr (sd_sub hs), i3, ?_, fun j h1 h2 => ?_, fun j hj => ?_⟩
      · show (seqU v S dy al n (sd left (2 ^ k))).length + 1 + pc (remL (seqU v S dy al n (sd left (2 ^ k))) (sd left (2 ^ k))) = pc left
        omega
      · by_cases q : k = j
        · subst q; exact a.1
        · exact i5 j (by rw [sd1_tb hs, h1]; simp [q]) h2
      · rcases List.mem_cons.mp hj with q | q
        · subst q; exact hk.tb hm.1
        · exact i6 j q
theorem inner_m {o : Ob} {v : TV} (hM : M0 o v) (hv : TOK v) {S dy al left cnt : Nat} (hS : S < 256) (hd : dy < 256) (ha : al < 256) (hl : inK v left) (hc : cnt + pc left ≤ 8) :
    ∀ (d k n : Nat), k + d = v.1 3 → d + 1 < n → L_X8_undoSet_25 (nI S) (nI al) (nI dy) n (nI left) (nI cnt) (nI 0) (nI k) o = match fnd (cand v S dy al left) d k with
      | none => some (nI left, nI cnt, nI 0, o)
      | some r => some (nI (sd left (2 ^ r)), nI (cnt + 1), nI 1, sA o 22 cnt (nI r)) := by
  have h8 := hv.2.2.2.1
  have hll := hl.lt hv
  intro d
  induction d with
  | zero =>
    intro k n h1 h2
    obtain ⟨n, rfl⟩ : ∃ i, n = i + 1 := ⟨n - 1, by omega⟩
    show L_X8_undoSet_25_step (nI S) (nI al) (nI dy) (L_X8_undoSet_25 (nI S) (nI al) (nI dy) n) (nI left) (nI cnt) (nI 0) (nI k) o = _
    unfold L_X8_undoSet_25_step
    rw [hM.2.2.2.1]
    simp (disch := omega) only [bd_s, nm_s, l_0, l_1, l_2, l_3, l_4, l_5, l_6, l_7, l_8, l_9, l_10, l_16, l_20, l_32, l_44, l_48, l_57, l_59, l_60, l_99, l_100, l_107, l_108, l_112, l_255, l_256, l_300, l_9999, le_nI, lt_nI, eq_nI, cl_nI, ck_nI, gd_d, b2i_z, b2i_o, has_c, has_m, bit_c, within_c, nI_add, if_pos, if_neg, nI_or, nI_and, sh1_nI, pk_sub, gd_ckz]
    rfl
  | succ d ih =>
    intro k n h1 h2
    obtain ⟨n, rfl⟩ : ∃ i, n = i + 1 := ⟨n - 1, by omega⟩
    have hk : k < v.1 3 := by omega
    have e1 : S &&& left < 256 := and_lt8 _ hS
    show L_X8_undoSet_25_step (nI S) (nI al) (nI dy) (L_X8_undoSet_25 (nI S) (nI al) (nI dy) n) (nI left) (nI cnt) (nI 0) (nI k) o = _
    unfold L_X8_undoSet_25_step
    rw [hM.2.2.2.1, fnd]
    have em := may_m hM hv hk hl hd ha
    have e2 := nI_andn (2 ^ k) hll
    simp (disch := omega) only [bd_s, nm_s, l_0, l_1, l_2, l_3, l_4, l_5, l_6, l_7, l_8, l_9, l_10, l_16, l_20, l_32, l_44, l_48, l_57, l_59, l_60, l_99, l_100, l_107, l_108, l_112, l_255, l_256, l_300, l_9999, le_nI, lt_nI, eq_nI, cl_nI, ck_nI, gd_d, b2i_z, b2i_o, has_c, has_m, bit_c, within_c, nI_add, if_pos, if_neg, nI_or, nI_and, sh1_nI, pk_sub, gd_ckz, em]
    have hcand : cand v S dy al left k = (S.testBit k && may v k left dy al) := rfl
    have hmk : may v k left dy al = true → left.testBit k = true := fun q => ((may_t hll).mp q).1
    cases q1 : may v k left dy al
    · rw [hcand, q1]
      have := ih (k + 1) n (by omega) (by omega)
      cases q2 : (S &&& left).testBit k
      · simp [this]
      · simp [this]
    · have q3 := hmk q1
      rw [Nat.testBit_and, q3, Bool.and_true, hcand, q1, Bool.and_true]
      cases q2 : S.testBit k
      · have := ih (k + 1) n (by omega) (by omega)
        simp [this]
      · have hps := pc_sd left hll k (by omega) q3
        have e3 := nI_andn' (2 ^ k) hll
        simp (disch := omega) only [bd_s, nm_s, l_0, l_1, l_2, l_3, l_4, l_5, l_6, l_7, l_8, l_9, l_10, l_16, l_20, l_32, l_44, l_48, l_57, l_59, l_60, l_99, l_100, l_107, l_108, l_112, l_255, l_256, l_300, l_9999, le_nI, lt_nI, eq_nI, cl_nI, ck_nI, gd_d, b2i_z, b2i_o, has_c, has_m, bit_c, within_c, nI_add, if_pos, if_neg, nI_or, nI_and, sh1_nI, pk_sub, gd_ckz, e3, if_true, Bool.true_eq_false, if_false]
        obtain ⟨n, rfl⟩ : ∃ i, n = i + 1 := ⟨n - 1, by omega⟩
        show L_X8_undoSet_25_step (nI S) (nI al) (nI dy) (L_X8_undoSet_25 (nI S) (nI al) (nI dy) n) (nI (sd left (2 ^ k))) (nI (cnt + 1)) (nI 1) (nI (k + 1)) (sA o 22 cnt (nI k)) = _
        unfold L_X8_undoSet_25_step
        split
        · rfl
        · rw [if_neg (by decide)]
theorem undo_m {v : TV} (hv : TOK v) {S dy al : Nat} (hS : S < 256) (hd : dy < 256) (ha : al < 256) :
    ∀ (m left cnt n : Nat) (o : Ob), M0 o v → inK v left → pc left < m → m + 1 < n → cnt + pc left ≤ 8 → ∃ o', L_X8_undoSet_14 (nI S) (nI al) (nI dy) n (nI left) (nI cnt) (nI 1) o = some (nI (cnt + (seqU v S dy al m left).length), o') ∧ Same o o' ∧ (∀ i, i < cnt → o'.2 22 i = o.2 22 i) ∧ ∀ i r, (seqU v S dy al m left)[i]? = some r → o'.2 22 (cnt + i) = nI r := by
  have h8 := hv.2.2.2.1
  intro m
  induction m with
  | zero => intro left cnt n o _ _ h; omega
  | succ m ih =>
    intro left cnt n o hM hl hp hn hc
    have hll := hl.lt hv
    obtain ⟨n, rfl⟩ : ∃ i, n = i + 1 := ⟨n - 1, by omega⟩
    have hin := inner_m hM hv hS hd ha hl hc (v.1 3) 0 512 (by omega) (by omega)
    rw [← fnd_nk hv hl] at hin
    have hst : L_X8_undoSet_14 (nI S) (nI al) (nI dy) (n + 1) (nI left) (nI cnt) (nI 1) o = bd (L_X8_undoSet_25 (nI S) (nI al) (nI dy) 512 (nI left) (nI cnt) (nI 0) (nI 0) o) (fun z1 => L_X8_undoSet_14 (nI S) (nI al) (nI dy) n z1.1 z1.2.1 z1.2.2.1 z1.2.2.2) := by
      show L_X8_undoSet_14_step (nI S) (nI al) (nI dy) (L_X8_undoSet_14 (nI S) (nI al) (nI dy) n) (nI left) (nI cnt) (nI 1) o = _
      unfold L_X8_undoSet_14_step
      rw [if_neg (by decide)]; rfl
    rw [hst, hin, seqU]
    cases hf : fnd (cand v S dy al left) 8 0 with
    | none =>
      obtain ⟨n, rfl⟩ : ∃ i, n = i + 1 := ⟨n - 1, by omega⟩
      refine ⟨o, ?_, Same.rf o, fun _ _ => rfl, fun i r h => by simp at h⟩
      show L_X8_undoSet_14_step (nI S) (nI al) (nI dy) (L_X8_undoSet_14 (nI S) (nI al) (nI dy) n) (nI left) (nI cnt) (nI 0) o = _
      unfold L_X8_undoSet_14_step
      rw [if_pos (by decide)]; rfl
    | some k =>
      obtain ⟨a, b, c⟩ := fnd_some 8 0 k hf
      unfold cand at a
      rw [Bool.and_eq_true] at a
      have hm := (may_t hll).mp a.2
      have hps := pc_sd left hll k (by omega) hm.1
      have hsm : Same o (sA o 22 cnt (nI k)) := Same.set (by omega)
      obtain ⟨o', h1, h2, h3, h4⟩ := ih (sd left (2 ^ k)) (cnt + 1) n (sA o 22 cnt (nI k)) (hsm.m0 hM) ((sd_sub hll).inK hl) (by omega) (by omega) (by omega)
      refine ⟨o', ?_, hsm.tr h2, fun i hi => ?_, fun i r hr => ?_⟩
      · show L_X8_undoSet_14 (nI S) (nI al) (nI dy) n (nI (sd left (2 ^ k))) (nI (cnt + 1)) (nI 1) (sA o 22 cnt (nI k)) = _
        rw [h1]
        show some (nI (cnt + 1 + (seqU v S dy al m (sd left (2 ^ k))).length), o') = some (nI (cnt + ((seqU v S dy al m (sd left (2 ^ k))).length + 1)), o')
        rw [show cnt + 1 + (seqU v S dy al m (sd left (2 ^ k))).length = cnt + ((seqU v S dy al m (sd left (2 ^ k))).length + 1) by omega]
      · rw [h3 i (by omega)]
        show upd (o.2 22) cnt (nI k) i = o.2 22 i
        unfold upd; rw [if_neg (by omega)]
      · cases i with
        | zero =>
          have e : k = r := by simpa using hr
          subst e
          rw [Nat.add_zero, h3 cnt (by omega)]
          show upd (o.2 22) cnt (nI k) cnt = nI k
          unfold upd; rw [if_pos rfl]
        | succ i =>
          have hr2 : (seqU v S dy al m (sd left (2 ^ k)))[i]? = some r := by simpa using hr
          have := h4 i r hr2
          rw [show cnt + (i + 1) = cnt + 1 + i by omega]; exact this
/-- undoSet whole -/
theorem undoSet_m {o : Ob} {v : TV} (hM : M0 o v) (hv : TOK v) {S dy al : Nat} (hS : S < 256) (hd : dy < 256) (ha : al < 256) : ∃ o', f_X8_undoSet o (nI S) (nI al) (nI dy) = some (nI (seqU v S dy al 9 (v.1 4)).length, o') ∧ Same o o' ∧ ∀ i r, (seqU v S dy al 9 (v.1 4))[i]? = some r → o'.2 22 i = nI r := by
  have h0 := pc_8 (v.1 4) hv.td
  obtain ⟨o', h1, h2, h3, h4⟩ := undo_m hv hS hd ha 9 (v.1 4) 0 512 o hM hv.2.2.2.2.1 (by omega) (by omega) (by omega)
  refine ⟨o', ?_, h2, fun i r hr => by have := h4 i r hr; rw [Nat.zero_add] at this; exact this⟩
  unfold f_X8_undoSet
  rw [hM.2.2.2.2.1, nm_s, l_0, l_1, h1, Nat.zero_add]; rfl
theorem ever_loop {o : Ob} {L : List Nat} (hL : L.length ≤ 8) (ho : ∀ i r, L[i]? = some r → o.2 22 i = nI r ∧ r < 8) : ∀ (d i s n : Nat), i + d = L.length → d < n → s < 256 → L_X8_everBy_24 (nI L.length) o n (nI s) (nI i) = some (nI (remL (L.drop i) s)) := by
  intro d
  induction d with
  | zero =>
    intro i s n h1 h2 hs
    obtain ⟨n, rfl⟩ : ∃ i, n = i + 1 := ⟨n - 1, by omega⟩
    rw [List.drop_eq_nil_of_le (by omega)]
    show L_X8_everBy_24_step (nI L.length) o (L_X8_everBy_24 (nI L.length) o n) (nI s) (nI i) = _
    unfold L_X8_everBy_24_step
    simp (disch := omega) only [bd_s, nm_s, l_0, l_1, l_2, l_3, l_4, l_5, l_6, l_7, l_8, l_9, l_10, l_16, l_20, l_32, l_44, l_48, l_57, l_59, l_60, l_99, l_100, l_107, l_108, l_112, l_255, l_256, l_300, l_9999, le_nI, lt_nI, eq_nI, cl_nI, ck_nI, gd_d, b2i_z, b2i_o, has_c, has_m, bit_c, within_c, nI_add, if_pos, if_neg, nI_or, nI_and, sh1_nI, pk_sub, gd_ckz]
    rfl
  | succ d ih =>
    intro i s n h1 h2 hs
    obtain ⟨n, rfl⟩ : ∃ i, n = i + 1 := ⟨n - 1, by omega⟩
    have hi : i < L.length := by omega
    obtain ⟨e1, e2⟩ := ho i L[i] (List.getElem?_eq_getElem hi)
    rw [List.drop_eq_getElem_cons hi, remL]
    show L_X8_everBy_24_step (nI L.length) o (L_X8_everBy_24 (nI L.length) o n) (nI s) (nI i) = _
    unfold L_X8_everBy_24_step
    have e3 := nI_andn' (2 ^ L[i]) hs
    simp (disch := omega) only [bd_s, nm_s, l_0, l_1, l_2, l_3, l_4, l_5, l_6, l_7, l_8, l_9, l_10, l_16, l_20, l_32, l_44, l_48, l_57, l_59, l_60, l_99, l_100, l_107, l_108, l_112, l_255, l_256, l_300, l_9999, le_nI, lt_nI, eq_nI, cl_nI, ck_nI, gd_d, b2i_z, b2i_o, has_c, has_m, bit_c, within_c, nI_add, if_pos, if_neg, nI_or, nI_and, sh1_nI, pk_sub, gd_ckz, e1, e3]
    exact ih (i + 1) _ n (by omega) (by omega) (sd_lt8 _ hs)
theorem ever_m {o : Ob} {v : TV} (hM : M0 o v) (hv : TOK v) {al : Nat} (ha : al < 256) : ∃ s o', f_X8_everBy o (nI al) = some (nI s, o') ∧ Same o o' ∧ Inv v 99 al s ∧ Stuck v 99 al s := by
  have h0 := pc_8 (v.1 4) hv.td
  have htd := hv.td
  have h8 := hv.2.2.2.1
  obtain ⟨o', h1, h2, h3⟩ := undoSet_m hM hv (S := v.1 4) (dy := 99) (al := al) htd (by omega) ha
  obtain ⟨i1, i2, i3, i4, i5, i6⟩ := seqU_spec hv (S := v.1 4) (dy := 99) (al := al) 9 (v.1 4) (Inv.start v 99 al) (by omega)
  have hlen : (seqU v (v.1 4) 99 al 9 (v.1 4)).length ≤ 8 := by omega
  have hlp := ever_loop (o := o') (L := seqU v (v.1 4) 99 al 9 (v.1 4)) hlen (fun i r hr => ⟨h3 i r hr, by have := i6 r (List.mem_of_getElem? hr); omega⟩) (seqU v (v.1 4) 99 al 9 (v.1 4)).length 0 (v.1 4) 512 (by omega) (by omega) htd
  refine ⟨remL (seqU v (v.1 4) 99 al 9 (v.1 4)) (v.1 4), o', ?_, h2, i1, fun k => ?_⟩
  · unfold f_X8_everBy
    rw [hM.2.2.2.2.1, l_99, h1]
    simp only [bd_s, nm_s, h2.2 11 (by omega), hM.2.2.2.2.1, l_0, hlp, List.drop_zero]
  · have := i3 k
    unfold cand at this
    cases q : may v k (remL (seqU v (v.1 4) 99 al 9 (v.1 4)) (v.1 4)) 99 al
    · rfl
    · have hs : remL (seqU v (v.1 4) 99 al 9 (v.1 4)) (v.1 4) < 256 := i1.1.lt htd
      have hb := ((may_t hs).mp q).1
      rw [q, i1.1 k hb] at this; cases this
