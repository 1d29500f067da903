/-! ===== wiped, told, laid (own text) ===== -/
theorem wipe_ok {X : Nat → Ob} (hR : RX X) : ∃ k X', k < 1000 ∧ f_X7_wipe X = some (nI k, X') ∧ TL (X' 0) [] ∧ RX X' := by
  obtain ⟨o, ho⟩ := hR
  obtain ⟨v, -, ⟨n, B, h0⟩, -⟩ := id ho
  obtain ⟨r, X_, o_, b1, b2, b3⟩ := s_wipe X o ho
  have e : f_X7_wipe X = some (nI n, sX X 0 (sF (X 0) 1 (0 : Int32))) := by
    unfold f_X7_wipe f_X5_size f_X5_empty
    rw [h0.2.1]; rfl
  rw [e] at b1
  cases b1
  have := h0.1
  exact ⟨n, _, by omega, e, ⟨by simp, rfl, fun i hi => absurd hi (Nat.not_lt_zero i)⟩, o_, b3⟩
theorem fault_ok {X : Nat → Ob} (hR : RX X) {its : List It} (h : TL (X 0) (tkS its)) {w : TV} (hc : Ch v0 its w) : ∃ X', f_X7_fault X = some ((-4 : Int32), X') ∧ TL (X' 0) (tkS its) ∧ RX X' := by
  obtain ⟨o, ho⟩ := hR
  obtain ⟨o1, T1, a1, a2, a3⟩ := read_ok h hc (X 1) (X 3)
  obtain ⟨r, X_, o_, b1, b2, b3⟩ := s_fault X o ho
  have e : f_X7_fault X = some ((-4 : Int32), sX (sX X 1 o1) 3 T1) := by
    unfold f_X7_fault
    rw [a1]; rfl
  rw [e] at b1
  cases b1
  exact ⟨_, e, h, o_, b3⟩
theorem lay_ok {X : Nat → Ob} (hR : RX X) {its : List It} (h : TL (X 0) (tkS its)) {w : TV} (hc : Ch v0 its w) (h1 : 1 ≤ w.1 3) : ∃ X', f_X7_lay X = some (nI (w.1 3), X') ∧ TC (X' 2) w ∧ (X' 7).1 3 = nI 0 ∧ (X' 6).1 6 = nI 0 ∧ RX X' := by
  obtain ⟨o, ho⟩ := hR
  obtain ⟨o1, T1, a1, a2, a3⟩ := read_ok h hc (X 1) (X 3)
  obtain ⟨r, X_, o_, b1, b2, b3⟩ := s_lay X o ho
  obtain ⟨T2, c1, c2⟩ := copy_c (T := X 2) a2 a3
  have h8 := a3.2.2.2.1
  have e : f_X7_lay X = some (nI (w.1 3), sX (sX (sX (sX (sX (sX (sX (sX X 1 o1) 3 T1) 2 T2) 9 (sF (X 9) 1 (0 : Int32))) 10 (sF (sF (X 10) 1 (0 : Int32)) 2 (0 : Int32))) 11 (sF (sF (X 11) 1 (0 : Int32)) 2 (0 : Int32))) 7 (sF (X 7) 3 (0 : Int32))) 6 (sF (X 6) 6 (0 : Int32))) := by
    unfold f_X7_lay
    rw [a1, bd_s, nm_s, if_pos (show (-4 : Int32) = (-4 : Int32) from rfl)]
    show (if (1 : Int32) ≤ T1.1 9 then bd (f_X6_copy (X 2) T1) _ else _) = _
    rw [a2.2.2.2.1, if_pos (show (1 : Int32) ≤ nI (w.1 3) from nI_le (a := 1) (b := w.1 3) h1 (by omega)), c1, bd_s]
    show some (T2.1 9, _) = _
    rw [c2.2.2.2.1]
    rfl
  rw [e] at b1
  cases b1
  exact ⟨_, e, c2, rfl, rfl, o_, b3⟩
