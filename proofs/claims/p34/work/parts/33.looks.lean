/-! ===== looks (own text) ===== -/
theorem le_c {α : Type} (x : Int32) (N : Nat) (hN : N < 1000000) (A C : α) : (if x < (0 : Int32) then A else if x ≤ nI N then C else A) = if inb x (N + 1) = true then C else A := by
  by_cases q : x < 0
  · rw [if_pos q, inb_neg q]; rfl
  · obtain ⟨k, hk, rfl⟩ := nI_of q
    rw [if_neg q, inb_nI (by omega)]
    by_cases q2 : k ≤ N
    · rw [if_pos ((nI_leI (by omega) (by omega)).mpr q2), if_pos (by simp; omega)]
    · rw [if_neg (fun e => q2 ((nI_leI (by omega) (by omega)).mp e)), if_neg (by simp; omega)]
theorem s_count : Sim_count Rl := fun X o h x => by
  obtain ⟨v, ht, ⟨n, B, tx⟩, -, -, ⟨rn, R, hw⟩, ⟨pn, K, S, D, hp⟩, ⟨kn, U, hk⟩⟩ := id h
  have hM := ht.m
  have hT := ht.1
  have htd := ht.2.2.1.td
  unfold f_X7_count f_X8_count f_X4_size f_X1_size f_X5_size
  rw [hT.1, hT.2.2.2.1, hT.2.2.2.2.1, hT.2.2.2.2.2.1, hT.2.2.1, hM.1, hM.2.2.2.1, hM.2.2.2.2.1, hM.2.2.2.2.2.1, hM.2.2.1, bits_c _ htd, bits_m _ htd, hw.2.1, hw.2.2.1, hp.2.1, hp.2.2.1, hk.2.1, hk.2.2.1, tx.2.1, tx.2.2.1]
  by_cases q0 : x = (0 : Int32)
  · simp only [if_pos q0]; exact ⟨_, rfl, rfl, h⟩
  simp only [if_neg q0]
  by_cases q1 : x = (1 : Int32)
  · simp only [if_pos q1]; exact ⟨_, rfl, rfl, h⟩
  simp only [if_neg q1]
  by_cases q2 : x = (2 : Int32)
  · simp only [if_pos q2]; exact ⟨_, rfl, rfl, h⟩
  simp only [if_neg q2]
  by_cases q3 : x = (3 : Int32)
  · simp only [if_pos q3]; exact ⟨_, rfl, rfl, h⟩
  simp only [if_neg q3]
  by_cases q4 : x = (4 : Int32)
  · simp only [if_pos q4]; exact ⟨_, rfl, rfl, h⟩
  simp only [if_neg q4]
  by_cases q5 : x = (5 : Int32)
  · simp only [if_pos q5]; exact ⟨_, rfl, rfl, h⟩
  simp only [if_neg q5]
  by_cases q6 : x = (6 : Int32)
  · simp only [if_pos q6]; exact ⟨_, rfl, rfl, h⟩
  simp only [if_neg q6]
  by_cases q7 : x = (7 : Int32)
  · simp only [if_pos q7]; exact ⟨_, rfl, rfl, h⟩
  simp only [if_neg q7]
  by_cases q8 : x = (8 : Int32)
  · simp only [if_pos q8]; exact ⟨_, rfl, rfl, h⟩
  simp only [if_neg q8]
  exact ⟨_, rfl, rfl, h⟩
theorem asn_c (b : Bool) : f_X7_asNumber (b2i b) = some (b2i b) := by
  cases b
  · rfl
  · rfl
theorem s_may : Sim_may Rl := fun X o h x => by
  obtain ⟨v, ht, -⟩ := id h
  have hv := ht.2.2.1
  have hM := ht.m
  have h8 := hv.2.2.2.1
  have htd := hv.td
  have hdy := hv.2.2.2.2.2.1
  have hal := hv.al
  unfold f_X7_may f_X8_may
  rw [isKnot_c ht.1 hv, there_m hM hv, bd_s, bd_s]
  cases q : inb x (v.1 3)
  · exact ⟨(-1 : Int32), rfl, rfl, h⟩
  · obtain ⟨k, hk, rfl⟩ := inb_of (by omega) q
    rw [if_neg (show ¬ b2i true = (0 : Int32) by decide), if_neg (show ¬ b2i true = (0 : Int32) by decide), ht.1.2.2.2.2.1, today_c ht.1 hv (by omega) (show inK v (v.1 4) from hv.2.2.2.2.1), bd_s, asn_c, bd_s, hM.2.2.2.2.1, hM.2.1, hM.2.2.2.2.2.1, may_m hM hv hk (show inK v (v.1 4) from hv.2.2.2.2.1) (by omega) (by omega), bd_s]
    refine ⟨_, rfl, ?_, h⟩
    cases may v k (v.1 4) (v.1 5) (v.1 1)
    · rfl
    · rfl
theorem s_person : Sim_person Rl := fun X o h x y => by
  obtain ⟨v, ht, -⟩ := id h
  have hv := ht.2.2.1
  have hM := ht.m
  have h6 := hv.1
  have hal := hv.al
  unfold f_X7_person f_X8_person
  rw [isPerson_c ht.1 hv, person_m hM hv, bd_s, bd_s, rng_m y 1 (by omega) 1 (by decide), l_1, le_c y 1 (by omega)]
  cases q : inb x (v.1 0)
  · exact ⟨(-1 : Int32), rfl, rfl, h⟩
  · obtain ⟨k, hk, rfl⟩ := inb_of (by omega) q
    rw [if_neg (show ¬ b2i true = (0 : Int32) by decide), if_neg (show ¬ b2i true = (0 : Int32) by decide), bd_s]
    cases q2 : inb y 2
    · exact ⟨(-1 : Int32), rfl, rfl, h⟩
    · rw [if_pos rfl, if_neg (show ¬ b2i true = (0 : Int32) by decide)]
      rcases rope2 q2 with rfl | rfl
      · rw [if_pos rfl, if_pos rfl, ht.1.2.1, has_c (by omega) (by omega), bd_s, asn_c, bd_s, hM.2.1, bit_nI (by omega) (by omega)]
        exact ⟨_, rfl, rfl, h⟩
      · rw [if_neg (show ¬ (1 : Int32) = 0 by decide), if_neg (show ¬ (1 : Int32) = 0 by decide), ofP_c ht.1 hv (by omega), bd_s, hM.2.2.2.2.1, ofM_m hM hv (by omega) (show inK v (v.1 4) from hv.2.2.2.2.1), ofM_c, bd_s]
        exact ⟨_, rfl, rfl, h⟩
theorem s_knot : Sim_knot Rl := fun X o h x y => by
  obtain ⟨v, ht, -⟩ := id h
  have hv := ht.2.2.1
  have hM := ht.m
  have h8 := hv.2.2.2.1
  have htd := hv.td
  unfold f_X7_knot f_X8_knot
  rw [isKnot_c ht.1 hv, there_m hM hv, bd_s, bd_s, rng_m y 6 (by omega) 6 (by decide), l_6, le_c y 6 (by omega)]
  cases q : inb x (v.1 3)
  · exact ⟨(-1 : Int32), rfl, rfl, h⟩
  · obtain ⟨k, hk, rfl⟩ := inb_of (by omega) q
    have c := ht.1.2.2.2.2.2.2 k hk
    have m := hM.2.2.2.2.2.2 k hk
    rw [if_neg (show ¬ b2i true = (0 : Int32) by decide), if_neg (show ¬ b2i true = (0 : Int32) by decide), bd_s]
    cases q2 : inb y 7
    · exact ⟨(-1 : Int32), rfl, rfl, h⟩
    · rw [if_pos rfl, if_neg (show ¬ b2i true = (0 : Int32) by decide), cl_nI (by omega), ck_nI (by omega), ck_nI (by omega), gd_d (by omega), gd_d (by omega), gd_d (by omega), gd_d (by omega), gd_d (by omega), c.1, c.2.1, c.2.2.2.1, c.2.2.2.2.1, c.2.2.2.2.2, ht.1.2.2.2.2.1, has_c (by omega) (by omega), bd_s, asn_c, bd_s, above_c ht.1 hv (by omega), bd_s, gd_d (by omega), gd_d (by omega), gd_d (by omega), gd_d (by omega), gd_d (by omega), m.1, m.2.1, m.2.2.1, m.2.2.2.1, m.2.2.2.2, hM.2.2.2.2.1, above_m hM hv (by omega), bd_s, l_1, bit_nI (by omega) (by omega)]
      by_cases a0 : y = (0 : Int32)
      · simp only [if_pos a0]; exact ⟨_, rfl, rfl, h⟩
      simp only [if_neg a0]
      by_cases a1 : y = nI 1
      · simp only [if_pos a1]; exact ⟨_, rfl, rfl, h⟩
      simp only [if_neg a1]
      by_cases a2 : y = (2 : Int32)
      · simp only [if_pos a2]; exact ⟨_, rfl, rfl, h⟩
      simp only [if_neg a2]
      by_cases a3 : y = (3 : Int32)
      · simp only [if_pos a3]; exact ⟨_, rfl, rfl, h⟩
      simp only [if_neg a3]
      by_cases a4 : y = (4 : Int32)
      · simp only [if_pos a4]; exact ⟨_, rfl, rfl, h⟩
      simp only [if_neg a4]
      by_cases a5 : y = (5 : Int32)
      · simp only [if_pos a5]; exact ⟨_, rfl, rfl, h⟩
      simp only [if_neg a5]
      exact ⟨_, rfl, rfl, h⟩
