def Sim_write (Rl : (Nat → Ob) → Ob → Prop) : Prop := ∀ X o, Rl X o → ∀ (x1 : Int32), ∀ (x2 : Int64), ∃ (r : Int32) (X_ : Nat → Ob) (o_ : Ob), f_X7_write X x1 x2 = some (r, X_) ∧ f_X8_write o x1 x2 = some (r, o_) ∧ Rl X_ o_
def Sim_wipe (Rl : (Nat → Ob) → Ob → Prop) : Prop := ∀ X o, Rl X o → ∃ (r : Int32) (X_ : Nat → Ob) (o_ : Ob), f_X7_wipe X = some (r, X_) ∧ f_X8_wipe o = some (r, o_) ∧ Rl X_ o_
def Sim_fault (Rl : (Nat → Ob) → Ob → Prop) : Prop := ∀ X o, Rl X o → ∃ (r : Int32) (X_ : Nat → Ob) (o_ : Ob), f_X7_fault X = some (r, X_) ∧ f_X8_fault o = some (r, o_) ∧ Rl X_ o_
def Sim_lay (Rl : (Nat → Ob) → Ob → Prop) : Prop := ∀ X o, Rl X o → ∃ (r : Int32) (X_ : Nat → Ob) (o_ : Ob), f_X7_lay X = some (r, X_) ∧ f_X8_lay o = some (r, o_) ∧ Rl X_ o_
def Sim_knot (Rl : (Nat → Ob) → Ob → Prop) : Prop := ∀ X o, Rl X o → ∀ (x1 : Int32), ∀ (x2 : Int32), ∃ (r : Int32), f_X7_knot X x1 x2 = some r ∧ f_X8_knot o x1 x2 = some r ∧ Rl X o
def Sim_person (Rl : (Nat → Ob) → Ob → Prop) : Prop := ∀ X o, Rl X o → ∀ (x1 : Int32), ∀ (x2 : Int32), ∃ (r : Int32), f_X7_person X x1 x2 = some r ∧ f_X8_person o x1 x2 = some r ∧ Rl X o
def Sim_may (Rl : (Nat → Ob) → Ob → Prop) : Prop := ∀ X o, Rl X o → ∀ (x1 : Int32), ∃ (r : Int32), f_X7_may X x1 = some r ∧ f_X8_may o x1 = some r ∧ Rl X o
def Sim_undo (Rl : (Nat → Ob) → Ob → Prop) : Prop := ∀ X o, Rl X o → ∀ (x1 : Int32), ∃ (r : Int32) (X_ : Nat → Ob) (o_ : Ob), f_X7_undo X x1 = some (r, X_) ∧ f_X8_undo o x1 = some (r, o_) ∧ Rl X_ o_
def Sim_tie (Rl : (Nat → Ob) → Ob → Prop) : Prop := ∀ X o, Rl X o → ∀ (x1 : Int32), ∀ (x2 : Int32), ∀ (x3 : Int32), ∀ (x4 : Int32), ∀ (x5 : Int32), ∃ (r : Int32) (X_ : Nat → Ob) (o_ : Ob), f_X7_tie X x1 x2 x3 x4 x5 = some (r, X_) ∧ f_X8_tie o x1 x2 x3 x4 x5 = some (r, o_) ∧ Rl X_ o_
def Sim_pull (Rl : (Nat → Ob) → Ob → Prop) : Prop := ∀ X o, Rl X o → ∀ (x1 : Int32), ∃ (r : Int32) (X_ : Nat → Ob) (o_ : Ob), f_X7_pull X x1 = some (r, X_) ∧ f_X8_pull o x1 = some (r, o_) ∧ Rl X_ o_
def Sim_cut (Rl : (Nat → Ob) → Ob → Prop) : Prop := ∀ X o, Rl X o → ∀ (x1 : Int32), ∃ (r : Int32) (X_ : Nat → Ob) (o_ : Ob), f_X7_cut X x1 = some (r, X_) ∧ f_X8_cut o x1 = some (r, o_) ∧ Rl X_ o_
def Sim_days (Rl : (Nat → Ob) → Ob → Prop) : Prop := ∀ X o, Rl X o → ∀ (x1 : Int32), ∃ (r : Int32) (X_ : Nat → Ob) (o_ : Ob), f_X7_days X x1 = some (r, X_) ∧ f_X8_days o x1 = some (r, o_) ∧ Rl X_ o_
def Sim_takeBack (Rl : (Nat → Ob) → Ob → Prop) : Prop := ∀ X o, Rl X o → ∃ (r : Int32) (X_ : Nat → Ob) (o_ : Ob), f_X7_takeBack X = some (r, X_) ∧ f_X8_takeBack o = some (r, o_) ∧ Rl X_ o_
def Sim_loosen (Rl : (Nat → Ob) → Ob → Prop) : Prop := ∀ X o, Rl X o → ∀ (x1 : Int32), ∃ (r : Int32) (o_ : Ob), f_X7_loosen X x1 = some r ∧ f_X8_loosen o x1 = some (r, o_) ∧ Rl X o_
def Sim_pay (Rl : (Nat → Ob) → Ob → Prop) : Prop := ∀ X o, Rl X o → ∀ (x1 : Int32), ∃ (r : Int32) (o_ : Ob), f_X7_pay X x1 = some r ∧ f_X8_pay o x1 = some (r, o_) ∧ Rl X o_
def Sim_forEver (Rl : (Nat → Ob) → Ob → Prop) : Prop := ∀ X o, Rl X o → ∃ (r : Int32) (o_ : Ob), f_X7_forEver X = some r ∧ f_X8_forEver o = some (r, o_) ∧ Rl X o_
def Sim_frees (Rl : (Nat → Ob) → Ob → Prop) : Prop := ∀ X o, Rl X o → ∀ (x1 : Int32), ∃ (r : Int32) (o_ : Ob), f_X7_frees X x1 = some r ∧ f_X8_frees o x1 = some (r, o_) ∧ Rl X o_
def Sim_fresh (Rl : (Nat → Ob) → Ob → Prop) : Prop := ∀ X o, Rl X o → ∀ (x1 : Int32), ∀ (x2 : Int32), ∀ (x3 : Int32), ∃ (r : Int32), f_X7_fresh X x1 x2 x3 = some r ∧ f_X8_fresh o x1 x2 x3 = some r ∧ Rl X o
def Sim_orders (Rl : (Nat → Ob) → Ob → Prop) : Prop := ∀ X o, Rl X o → ∃ (r : Int32) (X_ : Nat → Ob) (o_ : Ob), f_X7_orders X = some (r, X_) ∧ f_X8_orders o = some (r, o_) ∧ Rl X_ o_
def Sim_tell (Rl : (Nat → Ob) → Ob → Prop) : Prop := ∀ X o, Rl X o → ∀ (x1 : Int32), ∃ (r : Int32) (X_ : Nat → Ob) (o_ : Ob), f_X7_tell X x1 = some (r, X_) ∧ f_X8_tell o x1 = some (r, o_) ∧ Rl X_ o_
def Sim_noRow (Rl : (Nat → Ob) → Ob → Prop) : Prop := ∀ X o, Rl X o → ∃ (r : Int32) (X_ : Nat → Ob) (o_ : Ob), f_X7_noRow X = some (r, X_) ∧ f_X8_noRow o = some (r, o_) ∧ Rl X_ o_
def Sim_judge (Rl : (Nat → Ob) → Ob → Prop) : Prop := ∀ X o, Rl X o → ∃ (r : Int32), f_X7_judge X = some r ∧ f_X8_judge o = some r ∧ Rl X o
def Sim_cross (Rl : (Nat → Ob) → Ob → Prop) : Prop := ∀ X o, Rl X o → ∀ (x1 : Int32), ∀ (x2 : Int32), ∃ (r : Int32) (X_ : Nat → Ob) (o_ : Ob), f_X7_cross X x1 x2 = some (r, X_) ∧ f_X8_cross o x1 x2 = some (r, o_) ∧ Rl X_ o_
def Sim_smooth (Rl : (Nat → Ob) → Ob → Prop) : Prop := ∀ X o, Rl X o → ∀ (x1 : Int32), ∃ (r : Int32) (X_ : Nat → Ob) (o_ : Ob), f_X7_smooth X x1 = some (r, X_) ∧ f_X8_smooth o x1 = some (r, o_) ∧ Rl X_ o_
def Sim_loose (Rl : (Nat → Ob) → Ob → Prop) : Prop := ∀ X o, Rl X o → ∀ (x1 : Int32), ∀ (x2 : Int32), ∃ (r : Int32) (o_ : Ob), f_X7_loose X x1 x2 = some r ∧ f_X8_loose o x1 x2 = some (r, o_) ∧ Rl X o_
def Sim_alike (Rl : (Nat → Ob) → Ob → Prop) : Prop := ∀ X o, Rl X o → ∃ (r : Int32) (o_ : Ob), f_X7_alike X = some r ∧ f_X8_alike o = some (r, o_) ∧ Rl X o_
def Sim_mark (Rl : (Nat → Ob) → Ob → Prop) : Prop := ∀ X o, Rl X o → ∀ (x1 : Int32), ∀ (x2 : Int32), ∃ (r : Int32), f_X7_mark X x1 x2 = some r ∧ f_X8_mark o x1 x2 = some r ∧ Rl X o
def Sim_year (Rl : (Nat → Ob) → Ob → Prop) : Prop := ∀ X o, Rl X o → ∀ (x1 : Int32), ∀ (x2 : Int32), ∀ (x3 : Int32), ∃ (r : Int32), f_X7_year X x1 x2 x3 = some r ∧ f_X8_year o x1 x2 x3 = some r ∧ Rl X o
def Sim_keep (Rl : (Nat → Ob) → Ob → Prop) : Prop := ∀ X o, Rl X o → ∃ (r : Int32) (X_ : Nat → Ob) (o_ : Ob), f_X7_keep X = some (r, X_) ∧ f_X8_keep o = some (r, o_) ∧ Rl X_ o_
def Sim_back (Rl : (Nat → Ob) → Ob → Prop) : Prop := ∀ X o, Rl X o → ∃ (r : Int32) (X_ : Nat → Ob) (o_ : Ob), f_X7_back X = some (r, X_) ∧ f_X8_back o = some (r, o_) ∧ Rl X_ o_
def Sim_count (Rl : (Nat → Ob) → Ob → Prop) : Prop := ∀ X o, Rl X o → ∀ (x1 : Int32), ∃ (r : Int32), f_X7_count X x1 = some r ∧ f_X8_count o x1 = some r ∧ Rl X o
def Sim (Rl : (Nat → Ob) → Ob → Prop) : Prop := Sim_write Rl ∧ Sim_wipe Rl ∧ Sim_fault Rl ∧ Sim_lay Rl ∧ Sim_knot Rl ∧ Sim_person Rl ∧ Sim_may Rl ∧ Sim_undo Rl ∧ Sim_tie Rl ∧ Sim_pull Rl ∧ Sim_cut Rl ∧ Sim_days Rl ∧ Sim_takeBack Rl ∧ Sim_loosen Rl ∧ Sim_pay Rl ∧ Sim_forEver Rl ∧ Sim_frees Rl ∧ Sim_fresh Rl ∧ Sim_orders Rl ∧ Sim_tell Rl ∧ Sim_noRow Rl ∧ Sim_judge Rl ∧ Sim_cross Rl ∧ Sim_smooth Rl ∧ Sim_loose Rl ∧ Sim_alike Rl ∧ Sim_mark Rl ∧ Sim_year Rl ∧ Sim_keep Rl ∧ Sim_back Rl ∧ Sim_count Rl
set_option maxHeartbeats 4000000 in
set_option maxRecDepth 100000 in
theorem lc_write {p : Program} {l : Launch} {e : Env} {s : State} {m : MethodId} {below : List Frame} {meth : Method} {c : Code} {b L : Nat} {xs : Nat → Int32} {D : va_G} {cA : ClassId} {Q : State → Prop} {Rl : (Nat → Ob) → Ob → Prop} (hm : Sim_write Rl) (hx : p.tables.exec = Jvm.exec) (hb : c.code = cL_law) (hml : c.maxLocals = 4) (hown : s.vm.findClass RL = some m.cls) (hts : ∀ w ∈ wsL_law, w.before #[Value.ref b] s = true) (hX : va_X b L xs s s.heap) (hbl : b < s.heap.size) (hK : KB D cA s) {i : Nat} (hi : i + 6 ≤ L) (hL : L ≤ 3072) {ad : Nat → Nat → Nat} {a0 : Nat → Nat} {X : Nat → Ob} {o : Ob} (hR : Rl X o) {H : Heap} {locs : List Loc} (hP : va_P D vwCl (wX7 cA ad X ++ wX8 cA a0 o) H) (hD : va_D (fun q : Nat => s.heap.size ≤ q) (wX7 cA ad X ++ wX8 cA a0 o)) (hS : va_S (fun q : Nat => s.heap.size ≤ q) s.heap H locs) {ls : Array Slot} (hl : lv_has ls 4 [(0, .ref b), (1, .ref (ad 6 0)), (2, .ref (a0 0)), (3, .int (nI i))]) (K : (∀ (X : Nat → Ob) (o : Ob) (H : Heap) (locs : List Loc), Rl X o → va_P D vwCl (wX7 cA ad X ++ wX8 cA a0 o) H → va_D (fun q : Nat => s.heap.size ≤ q) (wX7 cA ad X ++ wX8 cA a0 o) → va_S (fun q : Nat => s.heap.size ≤ q) s.heap H locs → ∀ ls : Array Slot, lv_has ls 4 [(0, .ref b), (1, .ref (ad 6 0)), (2, .ref (a0 0)), (3, .int (nI i))] → W p l e room_1 s m #[Value.ref b] below meth c H locs 68 1770 Q (F0 m 945 ls []))) : W p l e room_1 s m #[Value.ref b] below meth c H locs 68 1770 Q (F0 m 172 ls []) := by
  have hA : ∀ q : Nat, s.heap.size ≤ q → (fun q : Nat => s.heap.size ≤ q) q := fun _ h => h
  have hbA : ¬ (fun q : Nat => s.heap.size ≤ q) b := Nat.not_le.mpr hbl
  have hin1 : vp_in (nI i + (1 : Int32)) L := by rw [show (1 : Int32) = nI 1 from rfl, nI_add]; exact vp_in_nI (by omega) (by omega)
  have hin2 : vp_in (nI i + (2 : Int32)) L := by rw [show (2 : Int32) = nI 2 from rfl, nI_add]; exact vp_in_nI (by omega) (by omega)
  have hin3 : vp_in (nI i + (3 : Int32)) L := by rw [show (3 : Int32) = nI 3 from rfl, nI_add]; exact vp_in_nI (by omega) (by omega)
  have lkc := hts (.constantLong RL 13 (4294967295)) (List.mem_of_getElem? (i := 6) rfl)
  refine lv_aload_n hx hb dL_law_172 rfl (lv_at hl 1 rfl) ?_
  refine lv_aload_n hx hb dL_law_173 rfl (lv_at hl 0 rfl) ?_
  refine lv_iload_n hx hb dL_law_174 rfl (lv_at hl 3 rfl) ?_
  refine lv_iconst (v := (1 : Int32)) hx hb dL_law_175 (by decide) ?_
  refine lv_iadd hx hb dL_law_176 ?_
  refine va_sld hx hb hX hbl hbA hS hin1 dL_law_177 ?_
  refine lv_aload_n hx hb dL_law_178 rfl (lv_at hl 0 rfl) ?_
  refine lv_iload_n hx hb dL_law_179 rfl (lv_at hl 3 rfl) ?_
  refine lv_iconst (v := (2 : Int32)) hx hb dL_law_180 (by decide) ?_
  refine lv_iadd hx hb dL_law_181 ?_
  refine va_sld hx hb hX hbl hbA hS hin2 dL_law_182 ?_
  refine lv_i2l hx hb dL_law_183 rfl ?_
  refine lv_bipush (v := (32 : Int32)) hx hb dL_law_184 (by decide) ?_
  refine lv_lshl hx hb dL_law_186 rfl ?_
  refine lv_aload_n hx hb dL_law_187 rfl (lv_at hl 0 rfl) ?_
  refine lv_iload_n hx hb dL_law_188 rfl (lv_at hl 3 rfl) ?_
  refine lv_iconst (v := (3 : Int32)) hx hb dL_law_189 (by decide) ?_
  refine lv_iadd hx hb dL_law_190 ?_
  refine va_sld hx hb hX hbl hbA hS hin3 dL_law_191 ?_
  refine lv_i2l hx hb dL_law_192 rfl ?_
  refine lv_ldc2 hx hb hown lkc dL_law_193 ?_
  refine lv_land hx hb dL_law_196 ?_
  refine lv_lor hx hb dL_law_197 ?_
  obtain ⟨r, X_, o_, e1, e2, hR⟩ := hm X o hR (xs ((nI i) + (1 : Int32)).toNatClampNeg) ((((xs ((nI i) + (2 : Int32)).toNatClampNeg).toInt64) <<< ((32 : Int32).toInt64 &&& 63)) ||| (((xs ((nI i) + (3 : Int32)).toNatClampNeg).toInt64) &&& (4294967295 : Int64)))
  refine pW_V (As := [.int (xs ((nI i) + (1 : Int32)).toNatClampNeg), .long ((((xs ((nI i) + (2 : Int32)).toNatClampNeg).toInt64) <<< ((32 : Int32).toInt64 &&& 63)) ||| (((xs ((nI i) + (3 : Int32)).toNatClampNeg).toInt64) &&& (4294967295 : Int64)))]) (rest := []) (wr := (wX8 cA a0 o)) (wn := (wX7 cA ad X_ ++ wX8 cA a0 o)) ⟨hx, hb, hml, hown, hts⟩ (c_X7_write l D cA ad X (xs ((nI i) + (1 : Int32)).toNatClampNeg) ((((xs ((nI i) + (2 : Int32)).toNatClampNeg).toInt64) <<< ((32 : Int32).toInt64 &&& 63)) ||| (((xs ((nI i) + (3 : Int32)).toNatClampNeg).toInt64) &&& (4294967295 : Int64))) r X_ e1) (cwV 2 hts gL_law_X7_write rfl rfl rfl hd_X7_write ⟨(Nat.le_of_ble_eq_true rfl), (Nat.le_of_ble_eq_true rfl)⟩) (recvK hK hP 0 7 rfl rfl) hK hP hD hS hA (List.Perm.refl _) (List.Perm.refl _) rfl hl.1 rfl (Nat.le_of_ble_eq_true rfl) dL_law_198 ⟨(Nat.le_of_ble_eq_true rfl), (Nat.le_of_ble_eq_true rfl)⟩ (fun H locs hP hD hS => ?_)
  refine lv_aload_n hx hb dL_law_201 rfl (lv_at hl 2 rfl) ?_
  refine lv_aload_n hx hb dL_law_202 rfl (lv_at hl 0 rfl) ?_
  refine lv_iload_n hx hb dL_law_203 rfl (lv_at hl 3 rfl) ?_
  refine lv_iconst (v := (1 : Int32)) hx hb dL_law_204 (by decide) ?_
  refine lv_iadd hx hb dL_law_205 ?_
  refine va_sld hx hb hX hbl hbA hS hin1 dL_law_206 ?_
  refine lv_aload_n hx hb dL_law_207 rfl (lv_at hl 0 rfl) ?_
  refine lv_iload_n hx hb dL_law_208 rfl (lv_at hl 3 rfl) ?_
  refine lv_iconst (v := (2 : Int32)) hx hb dL_law_209 (by decide) ?_
  refine lv_iadd hx hb dL_law_210 ?_
  refine va_sld hx hb hX hbl hbA hS hin2 dL_law_211 ?_
  refine lv_i2l hx hb dL_law_212 rfl ?_
  refine lv_bipush (v := (32 : Int32)) hx hb dL_law_213 (by decide) ?_
  refine lv_lshl hx hb dL_law_215 rfl ?_
  refine lv_aload_n hx hb dL_law_216 rfl (lv_at hl 0 rfl) ?_
  refine lv_iload_n hx hb dL_law_217 rfl (lv_at hl 3 rfl) ?_
  refine lv_iconst (v := (3 : Int32)) hx hb dL_law_218 (by decide) ?_
  refine lv_iadd hx hb dL_law_219 ?_
  refine va_sld hx hb hX hbl hbA hS hin3 dL_law_220 ?_
  refine lv_i2l hx hb dL_law_221 rfl ?_
  refine lv_ldc2 hx hb hown lkc dL_law_222 ?_
  refine lv_land hx hb dL_law_225 ?_
  refine lv_lor hx hb dL_law_226 ?_
  refine pW_V (As := [.int (xs ((nI i) + (1 : Int32)).toNatClampNeg), .long ((((xs ((nI i) + (2 : Int32)).toNatClampNeg).toInt64) <<< ((32 : Int32).toInt64 &&& 63)) ||| (((xs ((nI i) + (3 : Int32)).toNatClampNeg).toInt64) &&& (4294967295 : Int64)))]) (rest := [.int r]) (wr := (wX7 cA ad X_)) (wn := (wX7 cA ad X_ ++ wX8 cA a0 o_)) ⟨hx, hb, hml, hown, hts⟩ (c_X8_write l D cA a0 o (xs ((nI i) + (1 : Int32)).toNatClampNeg) ((((xs ((nI i) + (2 : Int32)).toNatClampNeg).toInt64) <<< ((32 : Int32).toInt64 &&& 63)) ||| (((xs ((nI i) + (3 : Int32)).toNatClampNeg).toInt64) &&& (4294967295 : Int64))) r o_ e2) (cwV 2 hts gL_law_X8_write rfl rfl rfl hd_X8_write ⟨(Nat.le_of_ble_eq_true rfl), (Nat.le_of_ble_eq_true rfl)⟩) (recvK hK (P_left (wc := (wX8 cA a0 o)) (R := (wX7 cA ad X_)) List.perm_append_comm hP) 0 8 rfl rfl) hK hP hD hS hA List.perm_append_comm List.perm_append_comm rfl hl.1 rfl (Nat.le_of_ble_eq_true rfl) dL_law_227 ⟨(Nat.le_of_ble_eq_true rfl), (Nat.le_of_ble_eq_true rfl)⟩ (fun H locs hP hD hS => ?_)
  refine lv_icmp_eq (tgt := 945) hx hb dL_law_230 (by decide) (fun hc => ?_) (fun hc => absurd rfl hc)
  exact K X_ o_ _ _ hR hP hD hS ls hl
set_option maxHeartbeats 4000000 in
set_option maxRecDepth 100000 in
theorem lc_wipe {p : Program} {l : Launch} {e : Env} {s : State} {m : MethodId} {below : List Frame} {meth : Method} {c : Code} {b L : Nat} {xs : Nat → Int32} {D : va_G} {cA : ClassId} {Q : State → Prop} {Rl : (Nat → Ob) → Ob → Prop} (hm : Sim_wipe Rl) (hx : p.tables.exec = Jvm.exec) (hb : c.code = cL_law) (hml : c.maxLocals = 4) (hown : s.vm.findClass RL = some m.cls) (hts : ∀ w ∈ wsL_law, w.before #[Value.ref b] s = true) (hX : va_X b L xs s s.heap) (hbl : b < s.heap.size) (hK : KB D cA s) {i : Nat} (hi : i + 6 ≤ L) (hL : L ≤ 3072) {ad : Nat → Nat → Nat} {a0 : Nat → Nat} {X : Nat → Ob} {o : Ob} (hR : Rl X o) {H : Heap} {locs : List Loc} (hP : va_P D vwCl (wX7 cA ad X ++ wX8 cA a0 o) H) (hD : va_D (fun q : Nat => s.heap.size ≤ q) (wX7 cA ad X ++ wX8 cA a0 o)) (hS : va_S (fun q : Nat => s.heap.size ≤ q) s.heap H locs) {ls : Array Slot} (hl : lv_has ls 4 [(0, .ref b), (1, .ref (ad 6 0)), (2, .ref (a0 0)), (3, .int (nI i))]) (K : (∀ (X : Nat → Ob) (o : Ob) (H : Heap) (locs : List Loc), Rl X o → va_P D vwCl (wX7 cA ad X ++ wX8 cA a0 o) H → va_D (fun q : Nat => s.heap.size ≤ q) (wX7 cA ad X ++ wX8 cA a0 o) → va_S (fun q : Nat => s.heap.size ≤ q) s.heap H locs → ∀ ls : Array Slot, lv_has ls 4 [(0, .ref b), (1, .ref (ad 6 0)), (2, .ref (a0 0)), (3, .int (nI i))] → W p l e room_1 s m #[Value.ref b] below meth c H locs 68 1770 Q (F0 m 945 ls []))) : W p l e room_1 s m #[Value.ref b] below meth c H locs 68 1770 Q (F0 m 235 ls []) := by
  have hA : ∀ q : Nat, s.heap.size ≤ q → (fun q : Nat => s.heap.size ≤ q) q := fun _ h => h
  have hbA : ¬ (fun q : Nat => s.heap.size ≤ q) b := Nat.not_le.mpr hbl
  refine lv_aload_n hx hb dL_law_235 rfl (lv_at hl 1 rfl) ?_
  obtain ⟨r, X_, o_, e1, e2, hR⟩ := hm X o hR
  refine pW_V (As := []) (rest := []) (wr := (wX8 cA a0 o)) (wn := (wX7 cA ad X_ ++ wX8 cA a0 o)) ⟨hx, hb, hml, hown, hts⟩ (c_X7_wipe l D cA ad X r X_ e1) (cwV 0 hts gL_law_X7_wipe rfl rfl rfl hd_X7_wipe ⟨(Nat.le_of_ble_eq_true rfl), (Nat.le_of_ble_eq_true rfl)⟩) (recvK hK hP 0 7 rfl rfl) hK hP hD hS hA (List.Perm.refl _) (List.Perm.refl _) rfl hl.1 rfl (Nat.le_of_ble_eq_true rfl) dL_law_236 ⟨(Nat.le_of_ble_eq_true rfl), (Nat.le_of_ble_eq_true rfl)⟩ (fun H locs hP hD hS => ?_)
  refine lv_aload_n hx hb dL_law_239 rfl (lv_at hl 2 rfl) ?_
  refine pW_V (As := []) (rest := [.int r]) (wr := (wX7 cA ad X_)) (wn := (wX7 cA ad X_ ++ wX8 cA a0 o_)) ⟨hx, hb, hml, hown, hts⟩ (c_X8_wipe l D cA a0 o r o_ e2) (cwV 0 hts gL_law_X8_wipe rfl rfl rfl hd_X8_wipe ⟨(Nat.le_of_ble_eq_true rfl), (Nat.le_of_ble_eq_true rfl)⟩) (recvK hK (P_left (wc := (wX8 cA a0 o)) (R := (wX7 cA ad X_)) List.perm_append_comm hP) 0 8 rfl rfl) hK hP hD hS hA List.perm_append_comm List.perm_append_comm rfl hl.1 rfl (Nat.le_of_ble_eq_true rfl) dL_law_240 ⟨(Nat.le_of_ble_eq_true rfl), (Nat.le_of_ble_eq_true rfl)⟩ (fun H locs hP hD hS => ?_)
  refine lv_icmp_eq (tgt := 945) hx hb dL_law_243 (by decide) (fun hc => ?_) (fun hc => absurd rfl hc)
  exact K X_ o_ _ _ hR hP hD hS ls hl
set_option maxHeartbeats 4000000 in
set_option maxRecDepth 100000 in
theorem lc_fault {p : Program} {l : Launch} {e : Env} {s : State} {m : MethodId} {below : List Frame} {meth : Method} {c : Code} {b L : Nat} {xs : Nat → Int32} {D : va_G} {cA : ClassId} {Q : State → Prop} {Rl : (Nat → Ob) → Ob → Prop} (hm : Sim_fault Rl) (hx : p.tables.exec = Jvm.exec) (hb : c.code = cL_law) (hml : c.maxLocals = 4) (hown : s.vm.findClass RL = some m.cls) (hts : ∀ w ∈ wsL_law, w.before #[Value.ref b] s = true) (hX : va_X b L xs s s.heap) (hbl : b < s.heap.size) (hK : KB D cA s) {i : Nat} (hi : i + 6 ≤ L) (hL : L ≤ 3072) {ad : Nat → Nat → Nat} {a0 : Nat → Nat} {X : Nat → Ob} {o : Ob} (hR : Rl X o) {H : Heap} {locs : List Loc} (hP : va_P D vwCl (wX7 cA ad X ++ wX8 cA a0 o) H) (hD : va_D (fun q : Nat => s.heap.size ≤ q) (wX7 cA ad X ++ wX8 cA a0 o)) (hS : va_S (fun q : Nat => s.heap.size ≤ q) s.heap H locs) {ls : Array Slot} (hl : lv_has ls 4 [(0, .ref b), (1, .ref (ad 6 0)), (2, .ref (a0 0)), (3, .int (nI i))]) (K : (∀ (X : Nat → Ob) (o : Ob) (H : Heap) (locs : List Loc), Rl X o → va_P D vwCl (wX7 cA ad X ++ wX8 cA a0 o) H → va_D (fun q : Nat => s.heap.size ≤ q) (wX7 cA ad X ++ wX8 cA a0 o) → va_S (fun q : Nat => s.heap.size ≤ q) s.heap H locs → ∀ ls : Array Slot, lv_has ls 4 [(0, .ref b), (1, .ref (ad 6 0)), (2, .ref (a0 0)), (3, .int (nI i))] → W p l e room_1 s m #[Value.ref b] below meth c H locs 68 1770 Q (F0 m 945 ls []))) : W p l e room_1 s m #[Value.ref b] below meth c H locs 68 1770 Q (F0 m 248 ls []) := by
  have hA : ∀ q : Nat, s.heap.size ≤ q → (fun q : Nat => s.heap.size ≤ q) q := fun _ h => h
  have hbA : ¬ (fun q : Nat => s.heap.size ≤ q) b := Nat.not_le.mpr hbl
  refine lv_aload_n hx hb dL_law_248 rfl (lv_at hl 1 rfl) ?_
  obtain ⟨r, X_, o_, e1, e2, hR⟩ := hm X o hR
  refine pW_V (As := []) (rest := []) (wr := (wX8 cA a0 o)) (wn := (wX7 cA ad X_ ++ wX8 cA a0 o)) ⟨hx, hb, hml, hown, hts⟩ (c_X7_fault l D cA ad X r X_ e1) (cwV 0 hts gL_law_X7_fault rfl rfl rfl hd_X7_fault ⟨(Nat.le_of_ble_eq_true rfl), (Nat.le_of_ble_eq_true rfl)⟩) (recvK hK hP 0 7 rfl rfl) hK hP hD hS hA (List.Perm.refl _) (List.Perm.refl _) rfl hl.1 rfl (Nat.le_of_ble_eq_true rfl) dL_law_249 ⟨(Nat.le_of_ble_eq_true rfl), (Nat.le_of_ble_eq_true rfl)⟩ (fun H locs hP hD hS => ?_)
  refine lv_aload_n hx hb dL_law_252 rfl (lv_at hl 2 rfl) ?_
  refine pW_V (As := []) (rest := [.int r]) (wr := (wX7 cA ad X_)) (wn := (wX7 cA ad X_ ++ wX8 cA a0 o_)) ⟨hx, hb, hml, hown, hts⟩ (c_X8_fault l D cA a0 o r o_ e2) (cwV 0 hts gL_law_X8_fault rfl rfl rfl hd_X8_fault ⟨(Nat.le_of_ble_eq_true rfl), (Nat.le_of_ble_eq_true rfl)⟩) (recvK hK (P_left (wc := (wX8 cA a0 o)) (R := (wX7 cA ad X_)) List.perm_append_comm hP) 0 8 rfl rfl) hK hP hD hS hA List.perm_append_comm List.perm_append_comm rfl hl.1 rfl (Nat.le_of_ble_eq_true rfl) dL_law_253 ⟨(Nat.le_of_ble_eq_true rfl), (Nat.le_of_ble_eq_true rfl)⟩ (fun H locs hP hD hS => ?_)
  refine lv_icmp_eq (tgt := 945) hx hb dL_law_256 (by decide) (fun hc => ?_) (fun hc => absurd rfl hc)
  exact K X_ o_ _ _ hR hP hD hS ls hl
set_option maxHeartbeats 4000000 in
set_option maxRecDepth 100000 in
theorem lc_lay {p : Program} {l : Launch} {e : Env} {s : State} {m : MethodId} {below : List Frame} {meth : Method} {c : Code} {b L : Nat} {xs : Nat → Int32} {D : va_G} {cA : ClassId} {Q : State → Prop} {Rl : (Nat → Ob) → Ob → Prop} (hm : Sim_lay Rl) (hx : p.tables.exec = Jvm.exec) (hb : c.code = cL_law) (hml : c.maxLocals = 4) (hown : s.vm.findClass RL = some m.cls) (hts : ∀ w ∈ wsL_law, w.before #[Value.ref b] s = true) (hX : va_X b L xs s s.heap) (hbl : b < s.heap.size) (hK : KB D cA s) {i : Nat} (hi : i + 6 ≤ L) (hL : L ≤ 3072) {ad : Nat → Nat → Nat} {a0 : Nat → Nat} {X : Nat → Ob} {o : Ob} (hR : Rl X o) {H : Heap} {locs : List Loc} (hP : va_P D vwCl (wX7 cA ad X ++ wX8 cA a0 o) H) (hD : va_D (fun q : Nat => s.heap.size ≤ q) (wX7 cA ad X ++ wX8 cA a0 o)) (hS : va_S (fun q : Nat => s.heap.size ≤ q) s.heap H locs) {ls : Array Slot} (hl : lv_has ls 4 [(0, .ref b), (1, .ref (ad 6 0)), (2, .ref (a0 0)), (3, .int (nI i))]) (K : (∀ (X : Nat → Ob) (o : Ob) (H : Heap) (locs : List Loc), Rl X o → va_P D vwCl (wX7 cA ad X ++ wX8 cA a0 o) H → va_D (fun q : Nat => s.heap.size ≤ q) (wX7 cA ad X ++ wX8 cA a0 o) → va_S (fun q : Nat => s.heap.size ≤ q) s.heap H locs → ∀ ls : Array Slot, lv_has ls 4 [(0, .ref b), (1, .ref (ad 6 0)), (2, .ref (a0 0)), (3, .int (nI i))] → W p l e room_1 s m #[Value.ref b] below meth c H locs 68 1770 Q (F0 m 945 ls []))) : W p l e room_1 s m #[Value.ref b] below meth c H locs 68 1770 Q (F0 m 261 ls []) := by
  have hA : ∀ q : Nat, s.heap.size ≤ q → (fun q : Nat => s.heap.size ≤ q) q := fun _ h => h
  have hbA : ¬ (fun q : Nat => s.heap.size ≤ q) b := Nat.not_le.mpr hbl
  refine lv_aload_n hx hb dL_law_261 rfl (lv_at hl 1 rfl) ?_
  obtain ⟨r, X_, o_, e1, e2, hR⟩ := hm X o hR
  refine pW_V (As := []) (rest := []) (wr := (wX8 cA a0 o)) (wn := (wX7 cA ad X_ ++ wX8 cA a0 o)) ⟨hx, hb, hml, hown, hts⟩ (c_X7_lay l D cA ad X r X_ e1) (cwV 0 hts gL_law_X7_lay rfl rfl rfl hd_X7_lay ⟨(Nat.le_of_ble_eq_true rfl), (Nat.le_of_ble_eq_true rfl)⟩) (recvK hK hP 0 7 rfl rfl) hK hP hD hS hA (List.Perm.refl _) (List.Perm.refl _) rfl hl.1 rfl (Nat.le_of_ble_eq_true rfl) dL_law_262 ⟨(Nat.le_of_ble_eq_true rfl), (Nat.le_of_ble_eq_true rfl)⟩ (fun H locs hP hD hS => ?_)
  refine lv_aload_n hx hb dL_law_265 rfl (lv_at hl 2 rfl) ?_
  refine pW_V (As := []) (rest := [.int r]) (wr := (wX7 cA ad X_)) (wn := (wX7 cA ad X_ ++ wX8 cA a0 o_)) ⟨hx, hb, hml, hown, hts⟩ (c_X8_lay l D cA a0 o r o_ e2) (cwV 0 hts gL_law_X8_lay rfl rfl rfl hd_X8_lay ⟨(Nat.le_of_ble_eq_true rfl), (Nat.le_of_ble_eq_true rfl)⟩) (recvK hK (P_left (wc := (wX8 cA a0 o)) (R := (wX7 cA ad X_)) List.perm_append_comm hP) 0 8 rfl rfl) hK hP hD hS hA List.perm_append_comm List.perm_append_comm rfl hl.1 rfl (Nat.le_of_ble_eq_true rfl) dL_law_266 ⟨(Nat.le_of_ble_eq_true rfl), (Nat.le_of_ble_eq_true rfl)⟩ (fun H locs hP hD hS => ?_)
  refine lv_icmp_eq (tgt := 945) hx hb dL_law_269 (by decide) (fun hc => ?_) (fun hc => absurd rfl hc)
  exact K X_ o_ _ _ hR hP hD hS ls hl
set_option maxHeartbeats 4000000 in
set_option maxRecDepth 100000 in
theorem lc_knot {p : Program} {l : Launch} {e : Env} {s : State} {m : MethodId} {below : List Frame} {meth : Method} {c : Code} {b L : Nat} {xs : Nat → Int32} {D : va_G} {cA : ClassId} {Q : State → Prop} {Rl : (Nat → Ob) → Ob → Prop} (hm : Sim_knot Rl) (hx : p.tables.exec = Jvm.exec) (hb : c.code = cL_law) (hml : c.maxLocals = 4) (hown : s.vm.findClass RL = some m.cls) (hts : ∀ w ∈ wsL_law, w.before #[Value.ref b] s = true) (hX : va_X b L xs s s.heap) (hbl : b < s.heap.size) (hK : KB D cA s) {i : Nat} (hi : i + 6 ≤ L) (hL : L ≤ 3072) {ad : Nat → Nat → Nat} {a0 : Nat → Nat} {X : Nat → Ob} {o : Ob} (hR : Rl X o) {H : Heap} {locs : List Loc} (hP : va_P D vwCl (wX7 cA ad X ++ wX8 cA a0 o) H) (hD : va_D (fun q : Nat => s.heap.size ≤ q) (wX7 cA ad X ++ wX8 cA a0 o)) (hS : va_S (fun q : Nat => s.heap.size ≤ q) s.heap H locs) {ls : Array Slot} (hl : lv_has ls 4 [(0, .ref b), (1, .ref (ad 6 0)), (2, .ref (a0 0)), (3, .int (nI i))]) (K : (∀ (X : Nat → Ob) (o : Ob) (H : Heap) (locs : List Loc), Rl X o → va_P D vwCl (wX7 cA ad X ++ wX8 cA a0 o) H → va_D (fun q : Nat => s.heap.size ≤ q) (wX7 cA ad X ++ wX8 cA a0 o) → va_S (fun q : Nat => s.heap.size ≤ q) s.heap H locs → ∀ ls : Array Slot, lv_has ls 4 [(0, .ref b), (1, .ref (ad 6 0)), (2, .ref (a0 0)), (3, .int (nI i))] → W p l e room_1 s m #[Value.ref b] below meth c H locs 68 1770 Q (F0 m 945 ls []))) : W p l e room_1 s m #[Value.ref b] below meth c H locs 68 1770 Q (F0 m 274 ls []) := by
  have hA : ∀ q : Nat, s.heap.size ≤ q → (fun q : Nat => s.heap.size ≤ q) q := fun _ h => h
  have hbA : ¬ (fun q : Nat => s.heap.size ≤ q) b := Nat.not_le.mpr hbl
  have hin1 : vp_in (nI i + (1 : Int32)) L := by rw [show (1 : Int32) = nI 1 from rfl, nI_add]; exact vp_in_nI (by omega) (by omega)
  have hin2 : vp_in (nI i + (2 : Int32)) L := by rw [show (2 : Int32) = nI 2 from rfl, nI_add]; exact vp_in_nI (by omega) (by omega)
  refine lv_aload_n hx hb dL_law_274 rfl (lv_at hl 1 rfl) ?_
  refine lv_aload_n hx hb dL_law_275 rfl (lv_at hl 0 rfl) ?_
  refine lv_iload_n hx hb dL_law_276 rfl (lv_at hl 3 rfl) ?_
  refine lv_iconst (v := (1 : Int32)) hx hb dL_law_277 (by decide) ?_
  refine lv_iadd hx hb dL_law_278 ?_
  refine va_sld hx hb hX hbl hbA hS hin1 dL_law_279 ?_
  refine lv_aload_n hx hb dL_law_280 rfl (lv_at hl 0 rfl) ?_
  refine lv_iload_n hx hb dL_law_281 rfl (lv_at hl 3 rfl) ?_
  refine lv_iconst (v := (2 : Int32)) hx hb dL_law_282 (by decide) ?_
  refine lv_iadd hx hb dL_law_283 ?_
  refine va_sld hx hb hX hbl hbA hS hin2 dL_law_284 ?_
  obtain ⟨r, e1, e2, hR⟩ := hm X o hR (xs ((nI i) + (1 : Int32)).toNatClampNeg) (xs ((nI i) + (2 : Int32)).toNatClampNeg)
  refine pR_V (As := [.int (xs ((nI i) + (1 : Int32)).toNatClampNeg), .int (xs ((nI i) + (2 : Int32)).toNatClampNeg)]) (rest := []) (wr := (wX8 cA a0 o)) ⟨hx, hb, hml, hown, hts⟩ (c_X7_knot l D cA ad X (xs ((nI i) + (1 : Int32)).toNatClampNeg) (xs ((nI i) + (2 : Int32)).toNatClampNeg) r e1) (cwV 2 hts gL_law_X7_knot rfl rfl rfl hd_X7_knot ⟨(Nat.le_of_ble_eq_true rfl), (Nat.le_of_ble_eq_true rfl)⟩) (recvK hK hP 0 7 rfl rfl) hK hP (List.Perm.refl _) rfl hl.1 rfl (Nat.le_of_ble_eq_true rfl) dL_law_285 ⟨(Nat.le_of_ble_eq_true rfl), (Nat.le_of_ble_eq_true rfl)⟩ ?_
  refine lv_aload_n hx hb dL_law_288 rfl (lv_at hl 2 rfl) ?_
  refine lv_aload_n hx hb dL_law_289 rfl (lv_at hl 0 rfl) ?_
  refine lv_iload_n hx hb dL_law_290 rfl (lv_at hl 3 rfl) ?_
  refine lv_iconst (v := (1 : Int32)) hx hb dL_law_291 (by decide) ?_
  refine lv_iadd hx hb dL_law_292 ?_
  refine va_sld hx hb hX hbl hbA hS hin1 dL_law_293 ?_
  refine lv_aload_n hx hb dL_law_294 rfl (lv_at hl 0 rfl) ?_
  refine lv_iload_n hx hb dL_law_295 rfl (lv_at hl 3 rfl) ?_
  refine lv_iconst (v := (2 : Int32)) hx hb dL_law_296 (by decide) ?_
  refine lv_iadd hx hb dL_law_297 ?_
  refine va_sld hx hb hX hbl hbA hS hin2 dL_law_298 ?_
  refine pR_V (As := [.int (xs ((nI i) + (1 : Int32)).toNatClampNeg), .int (xs ((nI i) + (2 : Int32)).toNatClampNeg)]) (rest := [.int r]) (wr := (wX7 cA ad X)) ⟨hx, hb, hml, hown, hts⟩ (c_X8_knot l D cA a0 o (xs ((nI i) + (1 : Int32)).toNatClampNeg) (xs ((nI i) + (2 : Int32)).toNatClampNeg) r e2) (cwV 2 hts gL_law_X8_knot rfl rfl rfl hd_X8_knot ⟨(Nat.le_of_ble_eq_true rfl), (Nat.le_of_ble_eq_true rfl)⟩) (recvK hK (P_left (wc := (wX8 cA a0 o)) (R := (wX7 cA ad X)) List.perm_append_comm hP) 0 8 rfl rfl) hK hP List.perm_append_comm rfl hl.1 rfl (Nat.le_of_ble_eq_true rfl) dL_law_299 ⟨(Nat.le_of_ble_eq_true rfl), (Nat.le_of_ble_eq_true rfl)⟩ ?_
  refine lv_icmp_eq (tgt := 945) hx hb dL_law_302 (by decide) (fun hc => ?_) (fun hc => absurd rfl hc)
  exact K X o _ _ hR hP hD hS ls hl
set_option maxHeartbeats 4000000 in
set_option maxRecDepth 100000 in
theorem lc_person {p : Program} {l : Launch} {e : Env} {s : State} {m : MethodId} {below : List Frame} {meth : Method} {c : Code} {b L : Nat} {xs : Nat → Int32} {D : va_G} {cA : ClassId} {Q : State → Prop} {Rl : (Nat → Ob) → Ob → Prop} (hm : Sim_person Rl) (hx : p.tables.exec = Jvm.exec) (hb : c.code = cL_law) (hml : c.maxLocals = 4) (hown : s.vm.findClass RL = some m.cls) (hts : ∀ w ∈ wsL_law, w.before #[Value.ref b] s = true) (hX : va_X b L xs s s.heap) (hbl : b < s.heap.size) (hK : KB D cA s) {i : Nat} (hi : i + 6 ≤ L) (hL : L ≤ 3072) {ad : Nat → Nat → Nat} {a0 : Nat → Nat} {X : Nat → Ob} {o : Ob} (hR : Rl X o) {H : Heap} {locs : List Loc} (hP : va_P D vwCl (wX7 cA ad X ++ wX8 cA a0 o) H) (hD : va_D (fun q : Nat => s.heap.size ≤ q) (wX7 cA ad X ++ wX8 cA a0 o)) (hS : va_S (fun q : Nat => s.heap.size ≤ q) s.heap H locs) {ls : Array Slot} (hl : lv_has ls 4 [(0, .ref b), (1, .ref (ad 6 0)), (2, .ref (a0 0)), (3, .int (nI i))]) (K : (∀ (X : Nat → Ob) (o : Ob) (H : Heap) (locs : List Loc), Rl X o → va_P D vwCl (wX7 cA ad X ++ wX8 cA a0 o) H → va_D (fun q : Nat => s.heap.size ≤ q) (wX7 cA ad X ++ wX8 cA a0 o) → va_S (fun q : Nat => s.heap.size ≤ q) s.heap H locs → ∀ ls : Array Slot, lv_has ls 4 [(0, .ref b), (1, .ref (ad 6 0)), (2, .ref (a0 0)), (3, .int (nI i))] → W p l e room_1 s m #[Value.ref b] below meth c H locs 68 1770 Q (F0 m 945 ls []))) : W p l e room_1 s m #[Value.ref b] below meth c H locs 68 1770 Q (F0 m 307 ls []) := by
  have hA : ∀ q : Nat, s.heap.size ≤ q → (fun q : Nat => s.heap.size ≤ q) q := fun _ h => h
  have hbA : ¬ (fun q : Nat => s.heap.size ≤ q) b := Nat.not_le.mpr hbl
  have hin1 : vp_in (nI i + (1 : Int32)) L := by rw [show (1 : Int32) = nI 1 from rfl, nI_add]; exact vp_in_nI (by omega) (by omega)
  have hin2 : vp_in (nI i + (2 : Int32)) L := by rw [show (2 : Int32) = nI 2 from rfl, nI_add]; exact vp_in_nI (by omega) (by omega)
  refine lv_aload_n hx hb dL_law_307 rfl (lv_at hl 1 rfl) ?_
  refine lv_aload_n hx hb dL_law_308 rfl (lv_at hl 0 rfl) ?_
  refine lv_iload_n hx hb dL_law_309 rfl (lv_at hl 3 rfl) ?_
  refine lv_iconst (v := (1 : Int32)) hx hb dL_law_310 (by decide) ?_
  refine lv_iadd hx hb dL_law_311 ?_
  refine va_sld hx hb hX hbl hbA hS hin1 dL_law_312 ?_
  refine lv_aload_n hx hb dL_law_313 rfl (lv_at hl 0 rfl) ?_
  refine lv_iload_n hx hb dL_law_314 rfl (lv_at hl 3 rfl) ?_
  refine lv_iconst (v := (2 : Int32)) hx hb dL_law_315 (by decide) ?_
  refine lv_iadd hx hb dL_law_316 ?_
  refine va_sld hx hb hX hbl hbA hS hin2 dL_law_317 ?_
  obtain ⟨r, e1, e2, hR⟩ := hm X o hR (xs ((nI i) + (1 : Int32)).toNatClampNeg) (xs ((nI i) + (2 : Int32)).toNatClampNeg)
  refine pR_V (As := [.int (xs ((nI i) + (1 : Int32)).toNatClampNeg), .int (xs ((nI i) + (2 : Int32)).toNatClampNeg)]) (rest := []) (wr := (wX8 cA a0 o)) ⟨hx, hb, hml, hown, hts⟩ (c_X7_person l D cA ad X (xs ((nI i) + (1 : Int32)).toNatClampNeg) (xs ((nI i) + (2 : Int32)).toNatClampNeg) r e1) (cwV 2 hts gL_law_X7_person rfl rfl rfl hd_X7_person ⟨(Nat.le_of_ble_eq_true rfl), (Nat.le_of_ble_eq_true rfl)⟩) (recvK hK hP 0 7 rfl rfl) hK hP (List.Perm.refl _) rfl hl.1 rfl (Nat.le_of_ble_eq_true rfl) dL_law_318 ⟨(Nat.le_of_ble_eq_true rfl), (Nat.le_of_ble_eq_true rfl)⟩ ?_
  refine lv_aload_n hx hb dL_law_321 rfl (lv_at hl 2 rfl) ?_
  refine lv_aload_n hx hb dL_law_322 rfl (lv_at hl 0 rfl) ?_
  refine lv_iload_n hx hb dL_law_323 rfl (lv_at hl 3 rfl) ?_
  refine lv_iconst (v := (1 : Int32)) hx hb dL_law_324 (by decide) ?_
  refine lv_iadd hx hb dL_law_325 ?_
  refine va_sld hx hb hX hbl hbA hS hin1 dL_law_326 ?_
  refine lv_aload_n hx hb dL_law_327 rfl (lv_at hl 0 rfl) ?_
  refine lv_iload_n hx hb dL_law_328 rfl (lv_at hl 3 rfl) ?_
  refine lv_iconst (v := (2 : Int32)) hx hb dL_law_329 (by decide) ?_
  refine lv_iadd hx hb dL_law_330 ?_
  refine va_sld hx hb hX hbl hbA hS hin2 dL_law_331 ?_
  refine pR_V (As := [.int (xs ((nI i) + (1 : Int32)).toNatClampNeg), .int (xs ((nI i) + (2 : Int32)).toNatClampNeg)]) (rest := [.int r]) (wr := (wX7 cA ad X)) ⟨hx, hb, hml, hown, hts⟩ (c_X8_person l D cA a0 o (xs ((nI i) + (1 : Int32)).toNatClampNeg) (xs ((nI i) + (2 : Int32)).toNatClampNeg) r e2) (cwV 2 hts gL_law_X8_person rfl rfl rfl hd_X8_person ⟨(Nat.le_of_ble_eq_true rfl), (Nat.le_of_ble_eq_true rfl)⟩) (recvK hK (P_left (wc := (wX8 cA a0 o)) (R := (wX7 cA ad X)) List.perm_append_comm hP) 0 8 rfl rfl) hK hP List.perm_append_comm rfl hl.1 rfl (Nat.le_of_ble_eq_true rfl) dL_law_332 ⟨(Nat.le_of_ble_eq_true rfl), (Nat.le_of_ble_eq_true rfl)⟩ ?_
  refine lv_icmp_eq (tgt := 945) hx hb dL_law_335 (by decide) (fun hc => ?_) (fun hc => absurd rfl hc)
  exact K X o _ _ hR hP hD hS ls hl
set_option maxHeartbeats 4000000 in
set_option maxRecDepth 100000 in
theorem lc_may {p : Program} {l : Launch} {e : Env} {s : State} {m : MethodId} {below : List Frame} {meth : Method} {c : Code} {b L : Nat} {xs : Nat → Int32} {D : va_G} {cA : ClassId} {Q : State → Prop} {Rl : (Nat → Ob) → Ob → Prop} (hm : Sim_may Rl) (hx : p.tables.exec = Jvm.exec) (hb : c.code = cL_law) (hml : c.maxLocals = 4) (hown : s.vm.findClass RL = some m.cls) (hts : ∀ w ∈ wsL_law, w.before #[Value.ref b] s = true) (hX : va_X b L xs s s.heap) (hbl : b < s.heap.size) (hK : KB D cA s) {i : Nat} (hi : i + 6 ≤ L) (hL : L ≤ 3072) {ad : Nat → Nat → Nat} {a0 : Nat → Nat} {X : Nat → Ob} {o : Ob} (hR : Rl X o) {H : Heap} {locs : List Loc} (hP : va_P D vwCl (wX7 cA ad X ++ wX8 cA a0 o) H) (hD : va_D (fun q : Nat => s.heap.size ≤ q) (wX7 cA ad X ++ wX8 cA a0 o)) (hS : va_S (fun q : Nat => s.heap.size ≤ q) s.heap H locs) {ls : Array Slot} (hl : lv_has ls 4 [(0, .ref b), (1, .ref (ad 6 0)), (2, .ref (a0 0)), (3, .int (nI i))]) (K : (∀ (X : Nat → Ob) (o : Ob) (H : Heap) (locs : List Loc), Rl X o → va_P D vwCl (wX7 cA ad X ++ wX8 cA a0 o) H → va_D (fun q : Nat => s.heap.size ≤ q) (wX7 cA ad X ++ wX8 cA a0 o) → va_S (fun q : Nat => s.heap.size ≤ q) s.heap H locs → ∀ ls : Array Slot, lv_has ls 4 [(0, .ref b), (1, .ref (ad 6 0)), (2, .ref (a0 0)), (3, .int (nI i))] → W p l e room_1 s m #[Value.ref b] below meth c H locs 68 1770 Q (F0 m 945 ls []))) : W p l e room_1 s m #[Value.ref b] below meth c H locs 68 1770 Q (F0 m 340 ls []) := by
  have hA : ∀ q : Nat, s.heap.size ≤ q → (fun q : Nat => s.heap.size ≤ q) q := fun _ h => h
  have hbA : ¬ (fun q : Nat => s.heap.size ≤ q) b := Nat.not_le.mpr hbl
  have hin1 : vp_in (nI i + (1 : Int32)) L := by rw [show (1 : Int32) = nI 1 from rfl, nI_add]; exact vp_in_nI (by omega) (by omega)
  refine lv_aload_n hx hb dL_law_340 rfl (lv_at hl 1 rfl) ?_
  refine lv_aload_n hx hb dL_law_341 rfl (lv_at hl 0 rfl) ?_
  refine lv_iload_n hx hb dL_law_342 rfl (lv_at hl 3 rfl) ?_
  refine lv_iconst (v := (1 : Int32)) hx hb dL_law_343 (by decide) ?_
  refine lv_iadd hx hb dL_law_344 ?_
  refine va_sld hx hb hX hbl hbA hS hin1 dL_law_345 ?_
  obtain ⟨r, e1, e2, hR⟩ := hm X o hR (xs ((nI i) + (1 : Int32)).toNatClampNeg)
  refine pR_V (As := [.int (xs ((nI i) + (1 : Int32)).toNatClampNeg)]) (rest := []) (wr := (wX8 cA a0 o)) ⟨hx, hb, hml, hown, hts⟩ (c_X7_may l D cA ad X (xs ((nI i) + (1 : Int32)).toNatClampNeg) r e1) (cwV 1 hts gL_law_X7_may rfl rfl rfl hd_X7_may ⟨(Nat.le_of_ble_eq_true rfl), (Nat.le_of_ble_eq_true rfl)⟩) (recvK hK hP 0 7 rfl rfl) hK hP (List.Perm.refl _) rfl hl.1 rfl (Nat.le_of_ble_eq_true rfl) dL_law_346 ⟨(Nat.le_of_ble_eq_true rfl), (Nat.le_of_ble_eq_true rfl)⟩ ?_
  refine lv_aload_n hx hb dL_law_349 rfl (lv_at hl 2 rfl) ?_
  refine lv_aload_n hx hb dL_law_350 rfl (lv_at hl 0 rfl) ?_
  refine lv_iload_n hx hb dL_law_351 rfl (lv_at hl 3 rfl) ?_
  refine lv_iconst (v := (1 : Int32)) hx hb dL_law_352 (by decide) ?_
  refine lv_iadd hx hb dL_law_353 ?_
  refine va_sld hx hb hX hbl hbA hS hin1 dL_law_354 ?_
  refine pR_V (As := [.int (xs ((nI i) + (1 : Int32)).toNatClampNeg)]) (rest := [.int r]) (wr := (wX7 cA ad X)) ⟨hx, hb, hml, hown, hts⟩ (c_X8_may l D cA a0 o (xs ((nI i) + (1 : Int32)).toNatClampNeg) r e2) (cwV 1 hts gL_law_X8_may rfl rfl rfl hd_X8_may ⟨(Nat.le_of_ble_eq_true rfl), (Nat.le_of_ble_eq_true rfl)⟩) (recvK hK (P_left (wc := (wX8 cA a0 o)) (R := (wX7 cA ad X)) List.perm_append_comm hP) 0 8 rfl rfl) hK hP List.perm_append_comm rfl hl.1 rfl (Nat.le_of_ble_eq_true rfl) dL_law_355 ⟨(Nat.le_of_ble_eq_true rfl), (Nat.le_of_ble_eq_true rfl)⟩ ?_
  refine lv_icmp_eq (tgt := 945) hx hb dL_law_358 (by decide) (fun hc => ?_) (fun hc => absurd rfl hc)
  exact K X o _ _ hR hP hD hS ls hl
set_option maxHeartbeats 4000000 in
set_option maxRecDepth 100000 in
theorem lc_undo {p : Program} {l : Launch} {e : Env} {s : State} {m : MethodId} {below : List Frame} {meth : Method} {c : Code} {b L : Nat} {xs : Nat → Int32} {D : va_G} {cA : ClassId} {Q : State → Prop} {Rl : (Nat → Ob) → Ob → Prop} (hm : Sim_undo Rl) (hx : p.tables.exec = Jvm.exec) (hb : c.code = cL_law) (hml : c.maxLocals = 4) (hown : s.vm.findClass RL = some m.cls) (hts : ∀ w ∈ wsL_law, w.before #[Value.ref b] s = true) (hX : va_X b L xs s s.heap) (hbl : b < s.heap.size) (hK : KB D cA s) {i : Nat} (hi : i + 6 ≤ L) (hL : L ≤ 3072) {ad : Nat → Nat → Nat} {a0 : Nat → Nat} {X : Nat → Ob} {o : Ob} (hR : Rl X o) {H : Heap} {locs : List Loc} (hP : va_P D vwCl (wX7 cA ad X ++ wX8 cA a0 o) H) (hD : va_D (fun q : Nat => s.heap.size ≤ q) (wX7 cA ad X ++ wX8 cA a0 o)) (hS : va_S (fun q : Nat => s.heap.size ≤ q) s.heap H locs) {ls : Array Slot} (hl : lv_has ls 4 [(0, .ref b), (1, .ref (ad 6 0)), (2, .ref (a0 0)), (3, .int (nI i))]) (K : (∀ (X : Nat → Ob) (o : Ob) (H : Heap) (locs : List Loc), Rl X o → va_P D vwCl (wX7 cA ad X ++ wX8 cA a0 o) H → va_D (fun q : Nat => s.heap.size ≤ q) (wX7 cA ad X ++ wX8 cA a0 o) → va_S (fun q : Nat => s.heap.size ≤ q) s.heap H locs → ∀ ls : Array Slot, lv_has ls 4 [(0, .ref b), (1, .ref (ad 6 0)), (2, .ref (a0 0)), (3, .int (nI i))] → W p l e room_1 s m #[Value.ref b] below meth c H locs 68 1770 Q (F0 m 945 ls []))) : W p l e room_1 s m #[Value.ref b] below meth c H locs 68 1770 Q (F0 m 363 ls []) := by
  have hA : ∀ q : Nat, s.heap.size ≤ q → (fun q : Nat => s.heap.size ≤ q) q := fun _ h => h
  have hbA : ¬ (fun q : Nat => s.heap.size ≤ q) b := Nat.not_le.mpr hbl
  have hin1 : vp_in (nI i + (1 : Int32)) L := by rw [show (1 : Int32) = nI 1 from rfl, nI_add]; exact vp_in_nI (by omega) (by omega)
  refine lv_aload_n hx hb dL_law_363 rfl (lv_at hl 1 rfl) ?_
  refine lv_aload_n hx hb dL_law_364 rfl (lv_at hl 0 rfl) ?_
  refine lv_iload_n hx hb dL_law_365 rfl (lv_at hl 3 rfl) ?_
  refine lv_iconst (v := (1 : Int32)) hx hb dL_law_366 (by decide) ?_
  refine lv_iadd hx hb dL_law_367 ?_
  refine va_sld hx hb hX hbl hbA hS hin1 dL_law_368 ?_
  obtain ⟨r, X_, o_, e1, e2, hR⟩ := hm X o hR (xs ((nI i) + (1 : Int32)).toNatClampNeg)
  refine pW_V (As := [.int (xs ((nI i) + (1 : Int32)).toNatClampNeg)]) (rest := []) (wr := (wX8 cA a0 o)) (wn := (wX7 cA ad X_ ++ wX8 cA a0 o)) ⟨hx, hb, hml, hown, hts⟩ (c_X7_undo l D cA ad X (xs ((nI i) + (1 : Int32)).toNatClampNeg) r X_ e1) (cwV 1 hts gL_law_X7_undo rfl rfl rfl hd_X7_undo ⟨(Nat.le_of_ble_eq_true rfl), (Nat.le_of_ble_eq_true rfl)⟩) (recvK hK hP 0 7 rfl rfl) hK hP hD hS hA (List.Perm.refl _) (List.Perm.refl _) rfl hl.1 rfl (Nat.le_of_ble_eq_true rfl) dL_law_369 ⟨(Nat.le_of_ble_eq_true rfl), (Nat.le_of_ble_eq_true rfl)⟩ (fun H locs hP hD hS => ?_)
  refine lv_aload_n hx hb dL_law_372 rfl (lv_at hl 2 rfl) ?_
  refine lv_aload_n hx hb dL_law_373 rfl (lv_at hl 0 rfl) ?_
  refine lv_iload_n hx hb dL_law_374 rfl (lv_at hl 3 rfl) ?_
  refine lv_iconst (v := (1 : Int32)) hx hb dL_law_375 (by decide) ?_
  refine lv_iadd hx hb dL_law_376 ?_
  refine va_sld hx hb hX hbl hbA hS hin1 dL_law_377 ?_
  refine pW_V (As := [.int (xs ((nI i) + (1 : Int32)).toNatClampNeg)]) (rest := [.int r]) (wr := (wX7 cA ad X_)) (wn := (wX7 cA ad X_ ++ wX8 cA a0 o_)) ⟨hx, hb, hml, hown, hts⟩ (c_X8_undo l D cA a0 o (xs ((nI i) + (1 : Int32)).toNatClampNeg) r o_ e2) (cwV 1 hts gL_law_X8_undo rfl rfl rfl hd_X8_undo ⟨(Nat.le_of_ble_eq_true rfl), (Nat.le_of_ble_eq_true rfl)⟩) (recvK hK (P_left (wc := (wX8 cA a0 o)) (R := (wX7 cA ad X_)) List.perm_append_comm hP) 0 8 rfl rfl) hK hP hD hS hA List.perm_append_comm List.perm_append_comm rfl hl.1 rfl (Nat.le_of_ble_eq_true rfl) dL_law_378 ⟨(Nat.le_of_ble_eq_true rfl), (Nat.le_of_ble_eq_true rfl)⟩ (fun H locs hP hD hS => ?_)
  refine lv_icmp_eq (tgt := 945) hx hb dL_law_381 (by decide) (fun hc => ?_) (fun hc => absurd rfl hc)
  exact K X_ o_ _ _ hR hP hD hS ls hl
set_option maxHeartbeats 4000000 in
set_option maxRecDepth 100000 in
theorem lc_tie {p : Program} {l : Launch} {e : Env} {s : State} {m : MethodId} {below : List Frame} {meth : Method} {c : Code} {b L : Nat} {xs : Nat → Int32} {D : va_G} {cA : ClassId} {Q : State → Prop} {Rl : (Nat → Ob) → Ob → Prop} (hm : Sim_tie Rl) (hx : p.tables.exec = Jvm.exec) (hb : c.code = cL_law) (hml : c.maxLocals = 4) (hown : s.vm.findClass RL = some m.cls) (hts : ∀ w ∈ wsL_law, w.before #[Value.ref b] s = true) (hX : va_X b L xs s s.heap) (hbl : b < s.heap.size) (hK : KB D cA s) {i : Nat} (hi : i + 6 ≤ L) (hL : L ≤ 3072) {ad : Nat → Nat → Nat} {a0 : Nat → Nat} {X : Nat → Ob} {o : Ob} (hR : Rl X o) {H : Heap} {locs : List Loc} (hP : va_P D vwCl (wX7 cA ad X ++ wX8 cA a0 o) H) (hD : va_D (fun q : Nat => s.heap.size ≤ q) (wX7 cA ad X ++ wX8 cA a0 o)) (hS : va_S (fun q : Nat => s.heap.size ≤ q) s.heap H locs) {ls : Array Slot} (hl : lv_has ls 4 [(0, .ref b), (1, .ref (ad 6 0)), (2, .ref (a0 0)), (3, .int (nI i))]) (K : (∀ (X : Nat → Ob) (o : Ob) (H : Heap) (locs : List Loc), Rl X o → va_P D vwCl (wX7 cA ad X ++ wX8 cA a0 o) H → va_D (fun q : Nat => s.heap.size ≤ q) (wX7 cA ad X ++ wX8 cA a0 o) → va_S (fun q : Nat => s.heap.size ≤ q) s.heap H locs → ∀ ls : Array Slot, lv_has ls 4 [(0, .ref b), (1, .ref (ad 6 0)), (2, .ref (a0 0)), (3, .int (nI i))] → W p l e room_1 s m #[Value.ref b] below meth c H locs 68 1770 Q (F0 m 945 ls []))) : W p l e room_1 s m #[Value.ref b] below meth c H locs 68 1770 Q (F0 m 386 ls []) := by
  have hA : ∀ q : Nat, s.heap.size ≤ q → (fun q : Nat => s.heap.size ≤ q) q := fun _ h => h
  have hbA : ¬ (fun q : Nat => s.heap.size ≤ q) b := Nat.not_le.mpr hbl
  have hin1 : vp_in (nI i + (1 : Int32)) L := by rw [show (1 : Int32) = nI 1 from rfl, nI_add]; exact vp_in_nI (by omega) (by omega)
  have hin2 : vp_in (nI i + (2 : Int32)) L := by rw [show (2 : Int32) = nI 2 from rfl, nI_add]; exact vp_in_nI (by omega) (by omega)
  have hin3 : vp_in (nI i + (3 : Int32)) L := by rw [show (3 : Int32) = nI 3 from rfl, nI_add]; exact vp_in_nI (by omega) (by omega)
  have hin4 : vp_in (nI i + (4 : Int32)) L := by rw [show (4 : Int32) = nI 4 from rfl, nI_add]; exact vp_in_nI (by omega) (by omega)
  have hin5 : vp_in (nI i + (5 : Int32)) L := by rw [show (5 : Int32) = nI 5 from rfl, nI_add]; exact vp_in_nI (by omega) (by omega)
  refine lv_aload_n hx hb dL_law_386 rfl (lv_at hl 1 rfl) ?_
  refine lv_aload_n hx hb dL_law_387 rfl (lv_at hl 0 rfl) ?_
  refine lv_iload_n hx hb dL_law_388 rfl (lv_at hl 3 rfl) ?_
  refine lv_iconst (v := (1 : Int32)) hx hb dL_law_389 (by decide) ?_
  refine lv_iadd hx hb dL_law_390 ?_
  refine va_sld hx hb hX hbl hbA hS hin1 dL_law_391 ?_
  refine lv_aload_n hx hb dL_law_392 rfl (lv_at hl 0 rfl) ?_
  refine lv_iload_n hx hb dL_law_393 rfl (lv_at hl 3 rfl) ?_
  refine lv_iconst (v := (2 : Int32)) hx hb dL_law_394 (by decide) ?_
  refine lv_iadd hx hb dL_law_395 ?_
  refine va_sld hx hb hX hbl hbA hS hin2 dL_law_396 ?_
  refine lv_aload_n hx hb dL_law_397 rfl (lv_at hl 0 rfl) ?_
  refine lv_iload_n hx hb dL_law_398 rfl (lv_at hl 3 rfl) ?_
  refine lv_iconst (v := (3 : Int32)) hx hb dL_law_399 (by decide) ?_
  refine lv_iadd hx hb dL_law_400 ?_
  refine va_sld hx hb hX hbl hbA hS hin3 dL_law_401 ?_
  refine lv_aload_n hx hb dL_law_402 rfl (lv_at hl 0 rfl) ?_
  refine lv_iload_n hx hb dL_law_403 rfl (lv_at hl 3 rfl) ?_
  refine lv_iconst (v := (4 : Int32)) hx hb dL_law_404 (by decide) ?_
  refine lv_iadd hx hb dL_law_405 ?_
  refine va_sld hx hb hX hbl hbA hS hin4 dL_law_406 ?_
  refine lv_aload_n hx hb dL_law_407 rfl (lv_at hl 0 rfl) ?_
  refine lv_iload_n hx hb dL_law_408 rfl (lv_at hl 3 rfl) ?_
  refine lv_iconst (v := (5 : Int32)) hx hb dL_law_409 (by decide) ?_
  refine lv_iadd hx hb dL_law_410 ?_
  refine va_sld hx hb hX hbl hbA hS hin5 dL_law_411 ?_
  obtain ⟨r, X_, o_, e1, e2, hR⟩ := hm X o hR (xs ((nI i) + (1 : Int32)).toNatClampNeg) (xs ((nI i) + (2 : Int32)).toNatClampNeg) (xs ((nI i) + (3 : Int32)).toNatClampNeg) (xs ((nI i) + (4 : Int32)).toNatClampNeg) (xs ((nI i) + (5 : Int32)).toNatClampNeg)
  refine pW_V (As := [.int (xs ((nI i) + (1 : Int32)).toNatClampNeg), .int (xs ((nI i) + (2 : Int32)).toNatClampNeg), .int (xs ((nI i) + (3 : Int32)).toNatClampNeg), .int (xs ((nI i) + (4 : Int32)).toNatClampNeg), .int (xs ((nI i) + (5 : Int32)).toNatClampNeg)]) (rest := []) (wr := (wX8 cA a0 o)) (wn := (wX7 cA ad X_ ++ wX8 cA a0 o)) ⟨hx, hb, hml, hown, hts⟩ (c_X7_tie l D cA ad X (xs ((nI i) + (1 : Int32)).toNatClampNeg) (xs ((nI i) + (2 : Int32)).toNatClampNeg) (xs ((nI i) + (3 : Int32)).toNatClampNeg) (xs ((nI i) + (4 : Int32)).toNatClampNeg) (xs ((nI i) + (5 : Int32)).toNatClampNeg) r X_ e1) (cwV 5 hts gL_law_X7_tie rfl rfl rfl hd_X7_tie ⟨(Nat.le_of_ble_eq_true rfl), (Nat.le_of_ble_eq_true rfl)⟩) (recvK hK hP 0 7 rfl rfl) hK hP hD hS hA (List.Perm.refl _) (List.Perm.refl _) rfl hl.1 rfl (Nat.le_of_ble_eq_true rfl) dL_law_412 ⟨(Nat.le_of_ble_eq_true rfl), (Nat.le_of_ble_eq_true rfl)⟩ (fun H locs hP hD hS => ?_)
  refine lv_aload_n hx hb dL_law_415 rfl (lv_at hl 2 rfl) ?_
  refine lv_aload_n hx hb dL_law_416 rfl (lv_at hl 0 rfl) ?_
  refine lv_iload_n hx hb dL_law_417 rfl (lv_at hl 3 rfl) ?_
  refine lv_iconst (v := (1 : Int32)) hx hb dL_law_418 (by decide) ?_
  refine lv_iadd hx hb dL_law_419 ?_
  refine va_sld hx hb hX hbl hbA hS hin1 dL_law_420 ?_
  refine lv_aload_n hx hb dL_law_421 rfl (lv_at hl 0 rfl) ?_
  refine lv_iload_n hx hb dL_law_422 rfl (lv_at hl 3 rfl) ?_
  refine lv_iconst (v := (2 : Int32)) hx hb dL_law_423 (by decide) ?_
  refine lv_iadd hx hb dL_law_424 ?_
  refine va_sld hx hb hX hbl hbA hS hin2 dL_law_425 ?_
  refine lv_aload_n hx hb dL_law_426 rfl (lv_at hl 0 rfl) ?_
  refine lv_iload_n hx hb dL_law_427 rfl (lv_at hl 3 rfl) ?_
  refine lv_iconst (v := (3 : Int32)) hx hb dL_law_428 (by decide) ?_
  refine lv_iadd hx hb dL_law_429 ?_
  refine va_sld hx hb hX hbl hbA hS hin3 dL_law_430 ?_
  refine lv_aload_n hx hb dL_law_431 rfl (lv_at hl 0 rfl) ?_
  refine lv_iload_n hx hb dL_law_432 rfl (lv_at hl 3 rfl) ?_
  refine lv_iconst (v := (4 : Int32)) hx hb dL_law_433 (by decide) ?_
  refine lv_iadd hx hb dL_law_434 ?_
  refine va_sld hx hb hX hbl hbA hS hin4 dL_law_435 ?_
  refine lv_aload_n hx hb dL_law_436 rfl (lv_at hl 0 rfl) ?_
  refine lv_iload_n hx hb dL_law_437 rfl (lv_at hl 3 rfl) ?_
  refine lv_iconst (v := (5 : Int32)) hx hb dL_law_438 (by decide) ?_
  refine lv_iadd hx hb dL_law_439 ?_
  refine va_sld hx hb hX hbl hbA hS hin5 dL_law_440 ?_
  refine pW_V (As := [.int (xs ((nI i) + (1 : Int32)).toNatClampNeg), .int (xs ((nI i) + (2 : Int32)).toNatClampNeg), .int (xs ((nI i) + (3 : Int32)).toNatClampNeg), .int (xs ((nI i) + (4 : Int32)).toNatClampNeg), .int (xs ((nI i) + (5 : Int32)).toNatClampNeg)]) (rest := [.int r]) (wr := (wX7 cA ad X_)) (wn := (wX7 cA ad X_ ++ wX8 cA a0 o_)) ⟨hx, hb, hml, hown, hts⟩ (c_X8_tie l D cA a0 o (xs ((nI i) + (1 : Int32)).toNatClampNeg) (xs ((nI i) + (2 : Int32)).toNatClampNeg) (xs ((nI i) + (3 : Int32)).toNatClampNeg) (xs ((nI i) + (4 : Int32)).toNatClampNeg) (xs ((nI i) + (5 : Int32)).toNatClampNeg) r o_ e2) (cwV 5 hts gL_law_X8_tie rfl rfl rfl hd_X8_tie ⟨(Nat.le_of_ble_eq_true rfl), (Nat.le_of_ble_eq_true rfl)⟩) (recvK hK (P_left (wc := (wX8 cA a0 o)) (R := (wX7 cA ad X_)) List.perm_append_comm hP) 0 8 rfl rfl) hK hP hD hS hA List.perm_append_comm List.perm_append_comm rfl hl.1 rfl (Nat.le_of_ble_eq_true rfl) dL_law_441 ⟨(Nat.le_of_ble_eq_true rfl), (Nat.le_of_ble_eq_true rfl)⟩ (fun H locs hP hD hS => ?_)
  refine lv_icmp_eq (tgt := 945) hx hb dL_law_444 (by decide) (fun hc => ?_) (fun hc => absurd rfl hc)
  exact K X_ o_ _ _ hR hP hD hS ls hl
set_option maxHeartbeats 4000000 in
set_option maxRecDepth 100000 in
theorem lc_pull {p : Program} {l : Launch} {e : Env} {s : State} {m : MethodId} {below : List Frame} {meth : Method} {c : Code} {b L : Nat} {xs : Nat → Int32} {D : va_G} {cA : ClassId} {Q : State → Prop} {Rl : (Nat → Ob) → Ob → Prop} (hm : Sim_pull Rl) (hx : p.tables.exec = Jvm.exec) (hb : c.code = cL_law) (hml : c.maxLocals = 4) (hown : s.vm.findClass RL = some m.cls) (hts : ∀ w ∈ wsL_law, w.before #[Value.ref b] s = true) (hX : va_X b L xs s s.heap) (hbl : b < s.heap.size) (hK : KB D cA s) {i : Nat} (hi : i + 6 ≤ L) (hL : L ≤ 3072) {ad : Nat → Nat → Nat} {a0 : Nat → Nat} {X : Nat → Ob} {o : Ob} (hR : Rl X o) {H : Heap} {locs : List Loc} (hP : va_P D vwCl (wX7 cA ad X ++ wX8 cA a0 o) H) (hD : va_D (fun q : Nat => s.heap.size ≤ q) (wX7 cA ad X ++ wX8 cA a0 o)) (hS : va_S (fun q : Nat => s.heap.size ≤ q) s.heap H locs) {ls : Array Slot} (hl : lv_has ls 4 [(0, .ref b), (1, .ref (ad 6 0)), (2, .ref (a0 0)), (3, .int (nI i))]) (K : (∀ (X : Nat → Ob) (o : Ob) (H : Heap) (locs : List Loc), Rl X o → va_P D vwCl (wX7 cA ad X ++ wX8 cA a0 o) H → va_D (fun q : Nat => s.heap.size ≤ q) (wX7 cA ad X ++ wX8 cA a0 o) → va_S (fun q : Nat => s.heap.size ≤ q) s.heap H locs → ∀ ls : Array Slot, lv_has ls 4 [(0, .ref b), (1, .ref (ad 6 0)), (2, .ref (a0 0)), (3, .int (nI i))] → W p l e room_1 s m #[Value.ref b] below meth c H locs 68 1770 Q (F0 m 945 ls []))) : W p l e room_1 s m #[Value.ref b] below meth c H locs 68 1770 Q (F0 m 449 ls []) := by
  have hA : ∀ q : Nat, s.heap.size ≤ q → (fun q : Nat => s.heap.size ≤ q) q := fun _ h => h
  have hbA : ¬ (fun q : Nat => s.heap.size ≤ q) b := Nat.not_le.mpr hbl
  have hin1 : vp_in (nI i + (1 : Int32)) L := by rw [show (1 : Int32) = nI 1 from rfl, nI_add]; exact vp_in_nI (by omega) (by omega)
  refine lv_aload_n hx hb dL_law_449 rfl (lv_at hl 1 rfl) ?_
  refine lv_aload_n hx hb dL_law_450 rfl (lv_at hl 0 rfl) ?_
  refine lv_iload_n hx hb dL_law_451 rfl (lv_at hl 3 rfl) ?_
  refine lv_iconst (v := (1 : Int32)) hx hb dL_law_452 (by decide) ?_
  refine lv_iadd hx hb dL_law_453 ?_
  refine va_sld hx hb hX hbl hbA hS hin1 dL_law_454 ?_
  obtain ⟨r, X_, o_, e1, e2, hR⟩ := hm X o hR (xs ((nI i) + (1 : Int32)).toNatClampNeg)
  refine pW_V (As := [.int (xs ((nI i) + (1 : Int32)).toNatClampNeg)]) (rest := []) (wr := (wX8 cA a0 o)) (wn := (wX7 cA ad X_ ++ wX8 cA a0 o)) ⟨hx, hb, hml, hown, hts⟩ (c_X7_pull l D cA ad X (xs ((nI i) + (1 : Int32)).toNatClampNeg) r X_ e1) (cwV 1 hts gL_law_X7_pull rfl rfl rfl hd_X7_pull ⟨(Nat.le_of_ble_eq_true rfl), (Nat.le_of_ble_eq_true rfl)⟩) (recvK hK hP 0 7 rfl rfl) hK hP hD hS hA (List.Perm.refl _) (List.Perm.refl _) rfl hl.1 rfl (Nat.le_of_ble_eq_true rfl) dL_law_455 ⟨(Nat.le_of_ble_eq_true rfl), (Nat.le_of_ble_eq_true rfl)⟩ (fun H locs hP hD hS => ?_)
  refine lv_aload_n hx hb dL_law_458 rfl (lv_at hl 2 rfl) ?_
  refine lv_aload_n hx hb dL_law_459 rfl (lv_at hl 0 rfl) ?_
  refine lv_iload_n hx hb dL_law_460 rfl (lv_at hl 3 rfl) ?_
  refine lv_iconst (v := (1 : Int32)) hx hb dL_law_461 (by decide) ?_
  refine lv_iadd hx hb dL_law_462 ?_
  refine va_sld hx hb hX hbl hbA hS hin1 dL_law_463 ?_
  refine pW_V (As := [.int (xs ((nI i) + (1 : Int32)).toNatClampNeg)]) (rest := [.int r]) (wr := (wX7 cA ad X_)) (wn := (wX7 cA ad X_ ++ wX8 cA a0 o_)) ⟨hx, hb, hml, hown, hts⟩ (c_X8_pull l D cA a0 o (xs ((nI i) + (1 : Int32)).toNatClampNeg) r o_ e2) (cwV 1 hts gL_law_X8_pull rfl rfl rfl hd_X8_pull ⟨(Nat.le_of_ble_eq_true rfl), (Nat.le_of_ble_eq_true rfl)⟩) (recvK hK (P_left (wc := (wX8 cA a0 o)) (R := (wX7 cA ad X_)) List.perm_append_comm hP) 0 8 rfl rfl) hK hP hD hS hA List.perm_append_comm List.perm_append_comm rfl hl.1 rfl (Nat.le_of_ble_eq_true rfl) dL_law_464 ⟨(Nat.le_of_ble_eq_true rfl), (Nat.le_of_ble_eq_true rfl)⟩ (fun H locs hP hD hS => ?_)
  refine lv_icmp_eq (tgt := 945) hx hb dL_law_467 (by decide) (fun hc => ?_) (fun hc => absurd rfl hc)
  exact K X_ o_ _ _ hR hP hD hS ls hl
set_option maxHeartbeats 4000000 in
set_option maxRecDepth 100000 in
theorem lc_cut {p : Program} {l : Launch} {e : Env} {s : State} {m : MethodId} {below : List Frame} {meth : Method} {c : Code} {b L : Nat} {xs : Nat → Int32} {D : va_G} {cA : ClassId} {Q : State → Prop} {Rl : (Nat → Ob) → Ob → Prop} (hm : Sim_cut Rl) (hx : p.tables.exec = Jvm.exec) (hb : c.code = cL_law) (hml : c.maxLocals = 4) (hown : s.vm.findClass RL = some m.cls) (hts : ∀ w ∈ wsL_law, w.before #[Value.ref b] s = true) (hX : va_X b L xs s s.heap) (hbl : b < s.heap.size) (hK : KB D cA s) {i : Nat} (hi : i + 6 ≤ L) (hL : L ≤ 3072) {ad : Nat → Nat → Nat} {a0 : Nat → Nat} {X : Nat → Ob} {o : Ob} (hR : Rl X o) {H : Heap} {locs : List Loc} (hP : va_P D vwCl (wX7 cA ad X ++ wX8 cA a0 o) H) (hD : va_D (fun q : Nat => s.heap.size ≤ q) (wX7 cA ad X ++ wX8 cA a0 o)) (hS : va_S (fun q : Nat => s.heap.size ≤ q) s.heap H locs) {ls : Array Slot} (hl : lv_has ls 4 [(0, .ref b), (1, .ref (ad 6 0)), (2, .ref (a0 0)), (3, .int (nI i))]) (K : (∀ (X : Nat → Ob) (o : Ob) (H : Heap) (locs : List Loc), Rl X o → va_P D vwCl (wX7 cA ad X ++ wX8 cA a0 o) H → va_D (fun q : Nat => s.heap.size ≤ q) (wX7 cA ad X ++ wX8 cA a0 o) → va_S (fun q : Nat => s.heap.size ≤ q) s.heap H locs → ∀ ls : Array Slot, lv_has ls 4 [(0, .ref b), (1, .ref (ad 6 0)), (2, .ref (a0 0)), (3, .int (nI i))] → W p l e room_1 s m #[Value.ref b] below meth c H locs 68 1770 Q (F0 m 945 ls []))) : W p l e room_1 s m #[Value.ref b] below meth c H locs 68 1770 Q (F0 m 472 ls []) := by
  have hA : ∀ q : Nat, s.heap.size ≤ q → (fun q : Nat => s.heap.size ≤ q) q := fun _ h => h
  have hbA : ¬ (fun q : Nat => s.heap.size ≤ q) b := Nat.not_le.mpr hbl
  have hin1 : vp_in (nI i + (1 : Int32)) L := by rw [show (1 : Int32) = nI 1 from rfl, nI_add]; exact vp_in_nI (by omega) (by omega)
  refine lv_aload_n hx hb dL_law_472 rfl (lv_at hl 1 rfl) ?_
  refine lv_aload_n hx hb dL_law_473 rfl (lv_at hl 0 rfl) ?_
  refine lv_iload_n hx hb dL_law_474 rfl (lv_at hl 3 rfl) ?_
  refine lv_iconst (v := (1 : Int32)) hx hb dL_law_475 (by decide) ?_
  refine lv_iadd hx hb dL_law_476 ?_
  refine va_sld hx hb hX hbl hbA hS hin1 dL_law_477 ?_
  obtain ⟨r, X_, o_, e1, e2, hR⟩ := hm X o hR (xs ((nI i) + (1 : Int32)).toNatClampNeg)
  refine pW_V (As := [.int (xs ((nI i) + (1 : Int32)).toNatClampNeg)]) (rest := []) (wr := (wX8 cA a0 o)) (wn := (wX7 cA ad X_ ++ wX8 cA a0 o)) ⟨hx, hb, hml, hown, hts⟩ (c_X7_cut l D cA ad X (xs ((nI i) + (1 : Int32)).toNatClampNeg) r X_ e1) (cwV 1 hts gL_law_X7_cut rfl rfl rfl hd_X7_cut ⟨(Nat.le_of_ble_eq_true rfl), (Nat.le_of_ble_eq_true rfl)⟩) (recvK hK hP 0 7 rfl rfl) hK hP hD hS hA (List.Perm.refl _) (List.Perm.refl _) rfl hl.1 rfl (Nat.le_of_ble_eq_true rfl) dL_law_478 ⟨(Nat.le_of_ble_eq_true rfl), (Nat.le_of_ble_eq_true rfl)⟩ (fun H locs hP hD hS => ?_)
  refine lv_aload_n hx hb dL_law_481 rfl (lv_at hl 2 rfl) ?_
  refine lv_aload_n hx hb dL_law_482 rfl (lv_at hl 0 rfl) ?_
  refine lv_iload_n hx hb dL_law_483 rfl (lv_at hl 3 rfl) ?_
  refine lv_iconst (v := (1 : Int32)) hx hb dL_law_484 (by decide) ?_
  refine lv_iadd hx hb dL_law_485 ?_
  refine va_sld hx hb hX hbl hbA hS hin1 dL_law_486 ?_
  refine pW_V (As := [.int (xs ((nI i) + (1 : Int32)).toNatClampNeg)]) (rest := [.int r]) (wr := (wX7 cA ad X_)) (wn := (wX7 cA ad X_ ++ wX8 cA a0 o_)) ⟨hx, hb, hml, hown, hts⟩ (c_X8_cut l D cA a0 o (xs ((nI i) + (1 : Int32)).toNatClampNeg) r o_ e2) (cwV 1 hts gL_law_X8_cut rfl rfl rfl hd_X8_cut ⟨(Nat.le_of_ble_eq_true rfl), (Nat.le_of_ble_eq_true rfl)⟩) (recvK hK (P_left (wc := (wX8 cA a0 o)) (R := (wX7 cA ad X_)) List.perm_append_comm hP) 0 8 rfl rfl) hK hP hD hS hA List.perm_append_comm List.perm_append_comm rfl hl.1 rfl (Nat.le_of_ble_eq_true rfl) dL_law_487 ⟨(Nat.le_of_ble_eq_true rfl), (Nat.le_of_ble_eq_true rfl)⟩ (fun H locs hP hD hS => ?_)
  refine lv_icmp_eq (tgt := 945) hx hb dL_law_490 (by decide) (fun hc => ?_) (fun hc => absurd rfl hc)
  exact K X_ o_ _ _ hR hP hD hS ls hl
set_option maxHeartbeats 4000000 in
set_option maxRecDepth 100000 in
theorem lc_days {p : Program} {l : Launch} {e : Env} {s : State} {m : MethodId} {below : List Frame} {meth : Method} {c : Code} {b L : Nat} {xs : Nat → Int32} {D : va_G} {cA : ClassId} {Q : State → Prop} {Rl : (Nat → Ob) → Ob → Prop} (hm : Sim_days Rl) (hx : p.tables.exec = Jvm.exec) (hb : c.code = cL_law) (hml : c.maxLocals = 4) (hown : s.vm.findClass RL = some m.cls) (hts : ∀ w ∈ wsL_law, w.before #[Value.ref b] s = true) (hX : va_X b L xs s s.heap) (hbl : b < s.heap.size) (hK : KB D cA s) {i : Nat} (hi : i + 6 ≤ L) (hL : L ≤ 3072) {ad : Nat → Nat → Nat} {a0 : Nat → Nat} {X : Nat → Ob} {o : Ob} (hR : Rl X o) {H : Heap} {locs : List Loc} (hP : va_P D vwCl (wX7 cA ad X ++ wX8 cA a0 o) H) (hD : va_D (fun q : Nat => s.heap.size ≤ q) (wX7 cA ad X ++ wX8 cA a0 o)) (hS : va_S (fun q : Nat => s.heap.size ≤ q) s.heap H locs) {ls : Array Slot} (hl : lv_has ls 4 [(0, .ref b), (1, .ref (ad 6 0)), (2, .ref (a0 0)), (3, .int (nI i))]) (K : (∀ (X : Nat → Ob) (o : Ob) (H : Heap) (locs : List Loc), Rl X o → va_P D vwCl (wX7 cA ad X ++ wX8 cA a0 o) H → va_D (fun q : Nat => s.heap.size ≤ q) (wX7 cA ad X ++ wX8 cA a0 o) → va_S (fun q : Nat => s.heap.size ≤ q) s.heap H locs → ∀ ls : Array Slot, lv_has ls 4 [(0, .ref b), (1, .ref (ad 6 0)), (2, .ref (a0 0)), (3, .int (nI i))] → W p l e room_1 s m #[Value.ref b] below meth c H locs 68 1770 Q (F0 m 945 ls []))) : W p l e room_1 s m #[Value.ref b] below meth c H locs 68 1770 Q (F0 m 495 ls []) := by
  have hA : ∀ q : Nat, s.heap.size ≤ q → (fun q : Nat => s.heap.size ≤ q) q := fun _ h => h
  have hbA : ¬ (fun q : Nat => s.heap.size ≤ q) b := Nat.not_le.mpr hbl
  have hin1 : vp_in (nI i + (1 : Int32)) L := by rw [show (1 : Int32) = nI 1 from rfl, nI_add]; exact vp_in_nI (by omega) (by omega)
  refine lv_aload_n hx hb dL_law_495 rfl (lv_at hl 1 rfl) ?_
  refine lv_aload_n hx hb dL_law_496 rfl (lv_at hl 0 rfl) ?_
  refine lv_iload_n hx hb dL_law_497 rfl (lv_at hl 3 rfl) ?_
  refine lv_iconst (v := (1 : Int32)) hx hb dL_law_498 (by decide) ?_
  refine lv_iadd hx hb dL_law_499 ?_
  refine va_sld hx hb hX hbl hbA hS hin1 dL_law_500 ?_
  obtain ⟨r, X_, o_, e1, e2, hR⟩ := hm X o hR (xs ((nI i) + (1 : Int32)).toNatClampNeg)
  refine pW_V (As := [.int (xs ((nI i) + (1 : Int32)).toNatClampNeg)]) (rest := []) (wr := (wX8 cA a0 o)) (wn := (wX7 cA ad X_ ++ wX8 cA a0 o)) ⟨hx, hb, hml, hown, hts⟩ (c_X7_days l D cA ad X (xs ((nI i) + (1 : Int32)).toNatClampNeg) r X_ e1) (cwV 1 hts gL_law_X7_days rfl rfl rfl hd_X7_days ⟨(Nat.le_of_ble_eq_true rfl), (Nat.le_of_ble_eq_true rfl)⟩) (recvK hK hP 0 7 rfl rfl) hK hP hD hS hA (List.Perm.refl _) (List.Perm.refl _) rfl hl.1 rfl (Nat.le_of_ble_eq_true rfl) dL_law_501 ⟨(Nat.le_of_ble_eq_true rfl), (Nat.le_of_ble_eq_true rfl)⟩ (fun H locs hP hD hS => ?_)
  refine lv_aload_n hx hb dL_law_504 rfl (lv_at hl 2 rfl) ?_
  refine lv_aload_n hx hb dL_law_505 rfl (lv_at hl 0 rfl) ?_
  refine lv_iload_n hx hb dL_law_506 rfl (lv_at hl 3 rfl) ?_
  refine lv_iconst (v := (1 : Int32)) hx hb dL_law_507 (by decide) ?_
  refine lv_iadd hx hb dL_law_508 ?_
  refine va_sld hx hb hX hbl hbA hS hin1 dL_law_509 ?_
  refine pW_V (As := [.int (xs ((nI i) + (1 : Int32)).toNatClampNeg)]) (rest := [.int r]) (wr := (wX7 cA ad X_)) (wn := (wX7 cA ad X_ ++ wX8 cA a0 o_)) ⟨hx, hb, hml, hown, hts⟩ (c_X8_days l D cA a0 o (xs ((nI i) + (1 : Int32)).toNatClampNeg) r o_ e2) (cwV 1 hts gL_law_X8_days rfl rfl rfl hd_X8_days ⟨(Nat.le_of_ble_eq_true rfl), (Nat.le_of_ble_eq_true rfl)⟩) (recvK hK (P_left (wc := (wX8 cA a0 o)) (R := (wX7 cA ad X_)) List.perm_append_comm hP) 0 8 rfl rfl) hK hP hD hS hA List.perm_append_comm List.perm_append_comm rfl hl.1 rfl (Nat.le_of_ble_eq_true rfl) dL_law_510 ⟨(Nat.le_of_ble_eq_true rfl), (Nat.le_of_ble_eq_true rfl)⟩ (fun H locs hP hD hS => ?_)
  refine lv_icmp_eq (tgt := 945) hx hb dL_law_513 (by decide) (fun hc => ?_) (fun hc => absurd rfl hc)
  exact K X_ o_ _ _ hR hP hD hS ls hl
set_option maxHeartbeats 4000000 in
set_option maxRecDepth 100000 in
theorem lc_takeBack {p : Program} {l : Launch} {e : Env} {s : State} {m : MethodId} {below : List Frame} {meth : Method} {c : Code} {b L : Nat} {xs : Nat → Int32} {D : va_G} {cA : ClassId} {Q : State → Prop} {Rl : (Nat → Ob) → Ob → Prop} (hm : Sim_takeBack Rl) (hx : p.tables.exec = Jvm.exec) (hb : c.code = cL_law) (hml : c.maxLocals = 4) (hown : s.vm.findClass RL = some m.cls) (hts : ∀ w ∈ wsL_law, w.before #[Value.ref b] s = true) (hX : va_X b L xs s s.heap) (hbl : b < s.heap.size) (hK : KB D cA s) {i : Nat} (hi : i + 6 ≤ L) (hL : L ≤ 3072) {ad : Nat → Nat → Nat} {a0 : Nat → Nat} {X : Nat → Ob} {o : Ob} (hR : Rl X o) {H : Heap} {locs : List Loc} (hP : va_P D vwCl (wX7 cA ad X ++ wX8 cA a0 o) H) (hD : va_D (fun q : Nat => s.heap.size ≤ q) (wX7 cA ad X ++ wX8 cA a0 o)) (hS : va_S (fun q : Nat => s.heap.size ≤ q) s.heap H locs) {ls : Array Slot} (hl : lv_has ls 4 [(0, .ref b), (1, .ref (ad 6 0)), (2, .ref (a0 0)), (3, .int (nI i))]) (K : (∀ (X : Nat → Ob) (o : Ob) (H : Heap) (locs : List Loc), Rl X o → va_P D vwCl (wX7 cA ad X ++ wX8 cA a0 o) H → va_D (fun q : Nat => s.heap.size ≤ q) (wX7 cA ad X ++ wX8 cA a0 o) → va_S (fun q : Nat => s.heap.size ≤ q) s.heap H locs → ∀ ls : Array Slot, lv_has ls 4 [(0, .ref b), (1, .ref (ad 6 0)), (2, .ref (a0 0)), (3, .int (nI i))] → W p l e room_1 s m #[Value.ref b] below meth c H locs 68 1770 Q (F0 m 945 ls []))) : W p l e room_1 s m #[Value.ref b] below meth c H locs 68 1770 Q (F0 m 518 ls []) := by
  have hA : ∀ q : Nat, s.heap.size ≤ q → (fun q : Nat => s.heap.size ≤ q) q := fun _ h => h
  have hbA : ¬ (fun q : Nat => s.heap.size ≤ q) b := Nat.not_le.mpr hbl
  refine lv_aload_n hx hb dL_law_518 rfl (lv_at hl 1 rfl) ?_
  obtain ⟨r, X_, o_, e1, e2, hR⟩ := hm X o hR
  refine pW_V (As := []) (rest := []) (wr := (wX8 cA a0 o)) (wn := (wX7 cA ad X_ ++ wX8 cA a0 o)) ⟨hx, hb, hml, hown, hts⟩ (c_X7_takeBack l D cA ad X r X_ e1) (cwV 0 hts gL_law_X7_takeBack rfl rfl rfl hd_X7_takeBack ⟨(Nat.le_of_ble_eq_true rfl), (Nat.le_of_ble_eq_true rfl)⟩) (recvK hK hP 0 7 rfl rfl) hK hP hD hS hA (List.Perm.refl _) (List.Perm.refl _) rfl hl.1 rfl (Nat.le_of_ble_eq_true rfl) dL_law_519 ⟨(Nat.le_of_ble_eq_true rfl), (Nat.le_of_ble_eq_true rfl)⟩ (fun H locs hP hD hS => ?_)
  refine lv_aload_n hx hb dL_law_522 rfl (lv_at hl 2 rfl) ?_
  refine pW_V (As := []) (rest := [.int r]) (wr := (wX7 cA ad X_)) (wn := (wX7 cA ad X_ ++ wX8 cA a0 o_)) ⟨hx, hb, hml, hown, hts⟩ (c_X8_takeBack l D cA a0 o r o_ e2) (cwV 0 hts gL_law_X8_takeBack rfl rfl rfl hd_X8_takeBack ⟨(Nat.le_of_ble_eq_true rfl), (Nat.le_of_ble_eq_true rfl)⟩) (recvK hK (P_left (wc := (wX8 cA a0 o)) (R := (wX7 cA ad X_)) List.perm_append_comm hP) 0 8 rfl rfl) hK hP hD hS hA List.perm_append_comm List.perm_append_comm rfl hl.1 rfl (Nat.le_of_ble_eq_true rfl) dL_law_523 ⟨(Nat.le_of_ble_eq_true rfl), (Nat.le_of_ble_eq_true rfl)⟩ (fun H locs hP hD hS => ?_)
  refine lv_icmp_eq (tgt := 945) hx hb dL_law_526 (by decide) (fun hc => ?_) (fun hc => absurd rfl hc)
  exact K X_ o_ _ _ hR hP hD hS ls hl
set_option maxHeartbeats 4000000 in
set_option maxRecDepth 100000 in
theorem lc_loosen {p : Program} {l : Launch} {e : Env} {s : State} {m : MethodId} {below : List Frame} {meth : Method} {c : Code} {b L : Nat} {xs : Nat → Int32} {D : va_G} {cA : ClassId} {Q : State → Prop} {Rl : (Nat → Ob) → Ob → Prop} (hm : Sim_loosen Rl) (hx : p.tables.exec = Jvm.exec) (hb : c.code = cL_law) (hml : c.maxLocals = 4) (hown : s.vm.findClass RL = some m.cls) (hts : ∀ w ∈ wsL_law, w.before #[Value.ref b] s = true) (hX : va_X b L xs s s.heap) (hbl : b < s.heap.size) (hK : KB D cA s) {i : Nat} (hi : i + 6 ≤ L) (hL : L ≤ 3072) {ad : Nat → Nat → Nat} {a0 : Nat → Nat} {X : Nat → Ob} {o : Ob} (hR : Rl X o) {H : Heap} {locs : List Loc} (hP : va_P D vwCl (wX7 cA ad X ++ wX8 cA a0 o) H) (hD : va_D (fun q : Nat => s.heap.size ≤ q) (wX7 cA ad X ++ wX8 cA a0 o)) (hS : va_S (fun q : Nat => s.heap.size ≤ q) s.heap H locs) {ls : Array Slot} (hl : lv_has ls 4 [(0, .ref b), (1, .ref (ad 6 0)), (2, .ref (a0 0)), (3, .int (nI i))]) (K : (∀ (X : Nat → Ob) (o : Ob) (H : Heap) (locs : List Loc), Rl X o → va_P D vwCl (wX7 cA ad X ++ wX8 cA a0 o) H → va_D (fun q : Nat => s.heap.size ≤ q) (wX7 cA ad X ++ wX8 cA a0 o) → va_S (fun q : Nat => s.heap.size ≤ q) s.heap H locs → ∀ ls : Array Slot, lv_has ls 4 [(0, .ref b), (1, .ref (ad 6 0)), (2, .ref (a0 0)), (3, .int (nI i))] → W p l e room_1 s m #[Value.ref b] below meth c H locs 68 1770 Q (F0 m 945 ls []))) : W p l e room_1 s m #[Value.ref b] below meth c H locs 68 1770 Q (F0 m 531 ls []) := by
  have hA : ∀ q : Nat, s.heap.size ≤ q → (fun q : Nat => s.heap.size ≤ q) q := fun _ h => h
  have hbA : ¬ (fun q : Nat => s.heap.size ≤ q) b := Nat.not_le.mpr hbl
  have hin1 : vp_in (nI i + (1 : Int32)) L := by rw [show (1 : Int32) = nI 1 from rfl, nI_add]; exact vp_in_nI (by omega) (by omega)
  refine lv_aload_n hx hb dL_law_531 rfl (lv_at hl 1 rfl) ?_
  refine lv_aload_n hx hb dL_law_532 rfl (lv_at hl 0 rfl) ?_
  refine lv_iload_n hx hb dL_law_533 rfl (lv_at hl 3 rfl) ?_
  refine lv_iconst (v := (1 : Int32)) hx hb dL_law_534 (by decide) ?_
  refine lv_iadd hx hb dL_law_535 ?_
  refine va_sld hx hb hX hbl hbA hS hin1 dL_law_536 ?_
  obtain ⟨r, o_, e1, e2, hR⟩ := hm X o hR (xs ((nI i) + (1 : Int32)).toNatClampNeg)
  refine pR_V (As := [.int (xs ((nI i) + (1 : Int32)).toNatClampNeg)]) (rest := []) (wr := (wX8 cA a0 o)) ⟨hx, hb, hml, hown, hts⟩ (c_X7_loosen l D cA ad X (xs ((nI i) + (1 : Int32)).toNatClampNeg) r e1) (cwV 1 hts gL_law_X7_loosen rfl rfl rfl hd_X7_loosen ⟨(Nat.le_of_ble_eq_true rfl), (Nat.le_of_ble_eq_true rfl)⟩) (recvK hK hP 0 7 rfl rfl) hK hP (List.Perm.refl _) rfl hl.1 rfl (Nat.le_of_ble_eq_true rfl) dL_law_537 ⟨(Nat.le_of_ble_eq_true rfl), (Nat.le_of_ble_eq_true rfl)⟩ ?_
  refine lv_aload_n hx hb dL_law_540 rfl (lv_at hl 2 rfl) ?_
  refine lv_aload_n hx hb dL_law_541 rfl (lv_at hl 0 rfl) ?_
  refine lv_iload_n hx hb dL_law_542 rfl (lv_at hl 3 rfl) ?_
  refine lv_iconst (v := (1 : Int32)) hx hb dL_law_543 (by decide) ?_
  refine lv_iadd hx hb dL_law_544 ?_
  refine va_sld hx hb hX hbl hbA hS hin1 dL_law_545 ?_
  refine pW_V (As := [.int (xs ((nI i) + (1 : Int32)).toNatClampNeg)]) (rest := [.int r]) (wr := (wX7 cA ad X)) (wn := (wX7 cA ad X ++ wX8 cA a0 o_)) ⟨hx, hb, hml, hown, hts⟩ (c_X8_loosen l D cA a0 o (xs ((nI i) + (1 : Int32)).toNatClampNeg) r o_ e2) (cwV 1 hts gL_law_X8_loosen rfl rfl rfl hd_X8_loosen ⟨(Nat.le_of_ble_eq_true rfl), (Nat.le_of_ble_eq_true rfl)⟩) (recvK hK (P_left (wc := (wX8 cA a0 o)) (R := (wX7 cA ad X)) List.perm_append_comm hP) 0 8 rfl rfl) hK hP hD hS hA List.perm_append_comm List.perm_append_comm rfl hl.1 rfl (Nat.le_of_ble_eq_true rfl) dL_law_546 ⟨(Nat.le_of_ble_eq_true rfl), (Nat.le_of_ble_eq_true rfl)⟩ (fun H locs hP hD hS => ?_)
  refine lv_icmp_eq (tgt := 945) hx hb dL_law_549 (by decide) (fun hc => ?_) (fun hc => absurd rfl hc)
  exact K X o_ _ _ hR hP hD hS ls hl
set_option maxHeartbeats 4000000 in
set_option maxRecDepth 100000 in
theorem lc_pay {p : Program} {l : Launch} {e : Env} {s : State} {m : MethodId} {below : List Frame} {meth : Method} {c : Code} {b L : Nat} {xs : Nat → Int32} {D : va_G} {cA : ClassId} {Q : State → Prop} {Rl : (Nat → Ob) → Ob → Prop} (hm : Sim_pay Rl) (hx : p.tables.exec = Jvm.exec) (hb : c.code = cL_law) (hml : c.maxLocals = 4) (hown : s.vm.findClass RL = some m.cls) (hts : ∀ w ∈ wsL_law, w.before #[Value.ref b] s = true) (hX : va_X b L xs s s.heap) (hbl : b < s.heap.size) (hK : KB D cA s) {i : Nat} (hi : i + 6 ≤ L) (hL : L ≤ 3072) {ad : Nat → Nat → Nat} {a0 : Nat → Nat} {X : Nat → Ob} {o : Ob} (hR : Rl X o) {H : Heap} {locs : List Loc} (hP : va_P D vwCl (wX7 cA ad X ++ wX8 cA a0 o) H) (hD : va_D (fun q : Nat => s.heap.size ≤ q) (wX7 cA ad X ++ wX8 cA a0 o)) (hS : va_S (fun q : Nat => s.heap.size ≤ q) s.heap H locs) {ls : Array Slot} (hl : lv_has ls 4 [(0, .ref b), (1, .ref (ad 6 0)), (2, .ref (a0 0)), (3, .int (nI i))]) (K : (∀ (X : Nat → Ob) (o : Ob) (H : Heap) (locs : List Loc), Rl X o → va_P D vwCl (wX7 cA ad X ++ wX8 cA a0 o) H → va_D (fun q : Nat => s.heap.size ≤ q) (wX7 cA ad X ++ wX8 cA a0 o) → va_S (fun q : Nat => s.heap.size ≤ q) s.heap H locs → ∀ ls : Array Slot, lv_has ls 4 [(0, .ref b), (1, .ref (ad 6 0)), (2, .ref (a0 0)), (3, .int (nI i))] → W p l e room_1 s m #[Value.ref b] below meth c H locs 68 1770 Q (F0 m 945 ls []))) : W p l e room_1 s m #[Value.ref b] below meth c H locs 68 1770 Q (F0 m 554 ls []) := by
  have hA : ∀ q : Nat, s.heap.size ≤ q → (fun q : Nat => s.heap.size ≤ q) q := fun _ h => h
  have hbA : ¬ (fun q : Nat => s.heap.size ≤ q) b := Nat.not_le.mpr hbl
  have hin1 : vp_in (nI i + (1 : Int32)) L := by rw [show (1 : Int32) = nI 1 from rfl, nI_add]; exact vp_in_nI (by omega) (by omega)
  refine lv_aload_n hx hb dL_law_554 rfl (lv_at hl 1 rfl) ?_
  refine lv_aload_n hx hb dL_law_555 rfl (lv_at hl 0 rfl) ?_
  refine lv_iload_n hx hb dL_law_556 rfl (lv_at hl 3 rfl) ?_
  refine lv_iconst (v := (1 : Int32)) hx hb dL_law_557 (by decide) ?_
  refine lv_iadd hx hb dL_law_558 ?_
  refine va_sld hx hb hX hbl hbA hS hin1 dL_law_559 ?_
  obtain ⟨r, o_, e1, e2, hR⟩ := hm X o hR (xs ((nI i) + (1 : Int32)).toNatClampNeg)
  refine pR_V (As := [.int (xs ((nI i) + (1 : Int32)).toNatClampNeg)]) (rest := []) (wr := (wX8 cA a0 o)) ⟨hx, hb, hml, hown, hts⟩ (c_X7_pay l D cA ad X (xs ((nI i) + (1 : Int32)).toNatClampNeg) r e1) (cwV 1 hts gL_law_X7_pay rfl rfl rfl hd_X7_pay ⟨(Nat.le_of_ble_eq_true rfl), (Nat.le_of_ble_eq_true rfl)⟩) (recvK hK hP 0 7 rfl rfl) hK hP (List.Perm.refl _) rfl hl.1 rfl (Nat.le_of_ble_eq_true rfl) dL_law_560 ⟨(Nat.le_of_ble_eq_true rfl), (Nat.le_of_ble_eq_true rfl)⟩ ?_
  refine lv_aload_n hx hb dL_law_563 rfl (lv_at hl 2 rfl) ?_
  refine lv_aload_n hx hb dL_law_564 rfl (lv_at hl 0 rfl) ?_
  refine lv_iload_n hx hb dL_law_565 rfl (lv_at hl 3 rfl) ?_
  refine lv_iconst (v := (1 : Int32)) hx hb dL_law_566 (by decide) ?_
  refine lv_iadd hx hb dL_law_567 ?_
  refine va_sld hx hb hX hbl hbA hS hin1 dL_law_568 ?_
  refine pW_V (As := [.int (xs ((nI i) + (1 : Int32)).toNatClampNeg)]) (rest := [.int r]) (wr := (wX7 cA ad X)) (wn := (wX7 cA ad X ++ wX8 cA a0 o_)) ⟨hx, hb, hml, hown, hts⟩ (c_X8_pay l D cA a0 o (xs ((nI i) + (1 : Int32)).toNatClampNeg) r o_ e2) (cwV 1 hts gL_law_X8_pay rfl rfl rfl hd_X8_pay ⟨(Nat.le_of_ble_eq_true rfl), (Nat.le_of_ble_eq_true rfl)⟩) (recvK hK (P_left (wc := (wX8 cA a0 o)) (R := (wX7 cA ad X)) List.perm_append_comm hP) 0 8 rfl rfl) hK hP hD hS hA List.perm_append_comm List.perm_append_comm rfl hl.1 rfl (Nat.le_of_ble_eq_true rfl) dL_law_569 ⟨(Nat.le_of_ble_eq_true rfl), (Nat.le_of_ble_eq_true rfl)⟩ (fun H locs hP hD hS => ?_)
  refine lv_icmp_eq (tgt := 945) hx hb dL_law_572 (by decide) (fun hc => ?_) (fun hc => absurd rfl hc)
  exact K X o_ _ _ hR hP hD hS ls hl
set_option maxHeartbeats 4000000 in
set_option maxRecDepth 100000 in
theorem lc_forEver {p : Program} {l : Launch} {e : Env} {s : State} {m : MethodId} {below : List Frame} {meth : Method} {c : Code} {b L : Nat} {xs : Nat → Int32} {D : va_G} {cA : ClassId} {Q : State → Prop} {Rl : (Nat → Ob) → Ob → Prop} (hm : Sim_forEver Rl) (hx : p.tables.exec = Jvm.exec) (hb : c.code = cL_law) (hml : c.maxLocals = 4) (hown : s.vm.findClass RL = some m.cls) (hts : ∀ w ∈ wsL_law, w.before #[Value.ref b] s = true) (hX : va_X b L xs s s.heap) (hbl : b < s.heap.size) (hK : KB D cA s) {i : Nat} (hi : i + 6 ≤ L) (hL : L ≤ 3072) {ad : Nat → Nat → Nat} {a0 : Nat → Nat} {X : Nat → Ob} {o : Ob} (hR : Rl X o) {H : Heap} {locs : List Loc} (hP : va_P D vwCl (wX7 cA ad X ++ wX8 cA a0 o) H) (hD : va_D (fun q : Nat => s.heap.size ≤ q) (wX7 cA ad X ++ wX8 cA a0 o)) (hS : va_S (fun q : Nat => s.heap.size ≤ q) s.heap H locs) {ls : Array Slot} (hl : lv_has ls 4 [(0, .ref b), (1, .ref (ad 6 0)), (2, .ref (a0 0)), (3, .int (nI i))]) (K : (∀ (X : Nat → Ob) (o : Ob) (H : Heap) (locs : List Loc), Rl X o → va_P D vwCl (wX7 cA ad X ++ wX8 cA a0 o) H → va_D (fun q : Nat => s.heap.size ≤ q) (wX7 cA ad X ++ wX8 cA a0 o) → va_S (fun q : Nat => s.heap.size ≤ q) s.heap H locs → ∀ ls : Array Slot, lv_has ls 4 [(0, .ref b), (1, .ref (ad 6 0)), (2, .ref (a0 0)), (3, .int (nI i))] → W p l e room_1 s m #[Value.ref b] below meth c H locs 68 1770 Q (F0 m 945 ls []))) : W p l e room_1 s m #[Value.ref b] below meth c H locs 68 1770 Q (F0 m 577 ls []) := by
  have hA : ∀ q : Nat, s.heap.size ≤ q → (fun q : Nat => s.heap.size ≤ q) q := fun _ h => h
  have hbA : ¬ (fun q : Nat => s.heap.size ≤ q) b := Nat.not_le.mpr hbl
  refine lv_aload_n hx hb dL_law_577 rfl (lv_at hl 1 rfl) ?_
  obtain ⟨r, o_, e1, e2, hR⟩ := hm X o hR
  refine pR_V (As := []) (rest := []) (wr := (wX8 cA a0 o)) ⟨hx, hb, hml, hown, hts⟩ (c_X7_forEver l D cA ad X r e1) (cwV 0 hts gL_law_X7_forEver rfl rfl rfl hd_X7_forEver ⟨(Nat.le_of_ble_eq_true rfl), (Nat.le_of_ble_eq_true rfl)⟩) (recvK hK hP 0 7 rfl rfl) hK hP (List.Perm.refl _) rfl hl.1 rfl (Nat.le_of_ble_eq_true rfl) dL_law_578 ⟨(Nat.le_of_ble_eq_true rfl), (Nat.le_of_ble_eq_true rfl)⟩ ?_
  refine lv_aload_n hx hb dL_law_581 rfl (lv_at hl 2 rfl) ?_
  refine pW_V (As := []) (rest := [.int r]) (wr := (wX7 cA ad X)) (wn := (wX7 cA ad X ++ wX8 cA a0 o_)) ⟨hx, hb, hml, hown, hts⟩ (c_X8_forEver l D cA a0 o r o_ e2) (cwV 0 hts gL_law_X8_forEver rfl rfl rfl hd_X8_forEver ⟨(Nat.le_of_ble_eq_true rfl), (Nat.le_of_ble_eq_true rfl)⟩) (recvK hK (P_left (wc := (wX8 cA a0 o)) (R := (wX7 cA ad X)) List.perm_append_comm hP) 0 8 rfl rfl) hK hP hD hS hA List.perm_append_comm List.perm_append_comm rfl hl.1 rfl (Nat.le_of_ble_eq_true rfl) dL_law_582 ⟨(Nat.le_of_ble_eq_true rfl), (Nat.le_of_ble_eq_true rfl)⟩ (fun H locs hP hD hS => ?_)
  refine lv_icmp_eq (tgt := 945) hx hb dL_law_585 (by decide) (fun hc => ?_) (fun hc => absurd rfl hc)
  exact K X o_ _ _ hR hP hD hS ls hl
set_option maxHeartbeats 4000000 in
set_option maxRecDepth 100000 in
theorem lc_frees {p : Program} {l : Launch} {e : Env} {s : State} {m : MethodId} {below : List Frame} {meth : Method} {c : Code} {b L : Nat} {xs : Nat → Int32} {D : va_G} {cA : ClassId} {Q : State → Prop} {Rl : (Nat → Ob) → Ob → Prop} (hm : Sim_frees Rl) (hx : p.tables.exec = Jvm.exec) (hb : c.code = cL_law) (hml : c.maxLocals = 4) (hown : s.vm.findClass RL = some m.cls) (hts : ∀ w ∈ wsL_law, w.before #[Value.ref b] s = true) (hX : va_X b L xs s s.heap) (hbl : b < s.heap.size) (hK : KB D cA s) {i : Nat} (hi : i + 6 ≤ L) (hL : L ≤ 3072) {ad : Nat → Nat → Nat} {a0 : Nat → Nat} {X : Nat → Ob} {o : Ob} (hR : Rl X o) {H : Heap} {locs : List Loc} (hP : va_P D vwCl (wX7 cA ad X ++ wX8 cA a0 o) H) (hD : va_D (fun q : Nat => s.heap.size ≤ q) (wX7 cA ad X ++ wX8 cA a0 o)) (hS : va_S (fun q : Nat => s.heap.size ≤ q) s.heap H locs) {ls : Array Slot} (hl : lv_has ls 4 [(0, .ref b), (1, .ref (ad 6 0)), (2, .ref (a0 0)), (3, .int (nI i))]) (K : (∀ (X : Nat → Ob) (o : Ob) (H : Heap) (locs : List Loc), Rl X o → va_P D vwCl (wX7 cA ad X ++ wX8 cA a0 o) H → va_D (fun q : Nat => s.heap.size ≤ q) (wX7 cA ad X ++ wX8 cA a0 o) → va_S (fun q : Nat => s.heap.size ≤ q) s.heap H locs → ∀ ls : Array Slot, lv_has ls 4 [(0, .ref b), (1, .ref (ad 6 0)), (2, .ref (a0 0)), (3, .int (nI i))] → W p l e room_1 s m #[Value.ref b] below meth c H locs 68 1770 Q (F0 m 945 ls []))) : W p l e room_1 s m #[Value.ref b] below meth c H locs 68 1770 Q (F0 m 590 ls []) := by
  have hA : ∀ q : Nat, s.heap.size ≤ q → (fun q : Nat => s.heap.size ≤ q) q := fun _ h => h
  have hbA : ¬ (fun q : Nat => s.heap.size ≤ q) b := Nat.not_le.mpr hbl
  have hin1 : vp_in (nI i + (1 : Int32)) L := by rw [show (1 : Int32) = nI 1 from rfl, nI_add]; exact vp_in_nI (by omega) (by omega)
  refine lv_aload_n hx hb dL_law_590 rfl (lv_at hl 1 rfl) ?_
  refine lv_aload_n hx hb dL_law_591 rfl (lv_at hl 0 rfl) ?_
  refine lv_iload_n hx hb dL_law_592 rfl (lv_at hl 3 rfl) ?_
  refine lv_iconst (v := (1 : Int32)) hx hb dL_law_593 (by decide) ?_
  refine lv_iadd hx hb dL_law_594 ?_
  refine va_sld hx hb hX hbl hbA hS hin1 dL_law_595 ?_
  obtain ⟨r, o_, e1, e2, hR⟩ := hm X o hR (xs ((nI i) + (1 : Int32)).toNatClampNeg)
  refine pR_V (As := [.int (xs ((nI i) + (1 : Int32)).toNatClampNeg)]) (rest := []) (wr := (wX8 cA a0 o)) ⟨hx, hb, hml, hown, hts⟩ (c_X7_frees l D cA ad X (xs ((nI i) + (1 : Int32)).toNatClampNeg) r e1) (cwV 1 hts gL_law_X7_frees rfl rfl rfl hd_X7_frees ⟨(Nat.le_of_ble_eq_true rfl), (Nat.le_of_ble_eq_true rfl)⟩) (recvK hK hP 0 7 rfl rfl) hK hP (List.Perm.refl _) rfl hl.1 rfl (Nat.le_of_ble_eq_true rfl) dL_law_596 ⟨(Nat.le_of_ble_eq_true rfl), (Nat.le_of_ble_eq_true rfl)⟩ ?_
  refine lv_aload_n hx hb dL_law_599 rfl (lv_at hl 2 rfl) ?_
  refine lv_aload_n hx hb dL_law_600 rfl (lv_at hl 0 rfl) ?_
  refine lv_iload_n hx hb dL_law_601 rfl (lv_at hl 3 rfl) ?_
  refine lv_iconst (v := (1 : Int32)) hx hb dL_law_602 (by decide) ?_
  refine lv_iadd hx hb dL_law_603 ?_
  refine va_sld hx hb hX hbl hbA hS hin1 dL_law_604 ?_
  refine pW_V (As := [.int (xs ((nI i) + (1 : Int32)).toNatClampNeg)]) (rest := [.int r]) (wr := (wX7 cA ad X)) (wn := (wX7 cA ad X ++ wX8 cA a0 o_)) ⟨hx, hb, hml, hown, hts⟩ (c_X8_frees l D cA a0 o (xs ((nI i) + (1 : Int32)).toNatClampNeg) r o_ e2) (cwV 1 hts gL_law_X8_frees rfl rfl rfl hd_X8_frees ⟨(Nat.le_of_ble_eq_true rfl), (Nat.le_of_ble_eq_true rfl)⟩) (recvK hK (P_left (wc := (wX8 cA a0 o)) (R := (wX7 cA ad X)) List.perm_append_comm hP) 0 8 rfl rfl) hK hP hD hS hA List.perm_append_comm List.perm_append_comm rfl hl.1 rfl (Nat.le_of_ble_eq_true rfl) dL_law_605 ⟨(Nat.le_of_ble_eq_true rfl), (Nat.le_of_ble_eq_true rfl)⟩ (fun H locs hP hD hS => ?_)
  refine lv_icmp_eq (tgt := 945) hx hb dL_law_608 (by decide) (fun hc => ?_) (fun hc => absurd rfl hc)
  exact K X o_ _ _ hR hP hD hS ls hl
set_option maxHeartbeats 4000000 in
set_option maxRecDepth 100000 in
theorem lc_fresh {p : Program} {l : Launch} {e : Env} {s : State} {m : MethodId} {below : List Frame} {meth : Method} {c : Code} {b L : Nat} {xs : Nat → Int32} {D : va_G} {cA : ClassId} {Q : State → Prop} {Rl : (Nat → Ob) → Ob → Prop} (hm : Sim_fresh Rl) (hx : p.tables.exec = Jvm.exec) (hb : c.code = cL_law) (hml : c.maxLocals = 4) (hown : s.vm.findClass RL = some m.cls) (hts : ∀ w ∈ wsL_law, w.before #[Value.ref b] s = true) (hX : va_X b L xs s s.heap) (hbl : b < s.heap.size) (hK : KB D cA s) {i : Nat} (hi : i + 6 ≤ L) (hL : L ≤ 3072) {ad : Nat → Nat → Nat} {a0 : Nat → Nat} {X : Nat → Ob} {o : Ob} (hR : Rl X o) {H : Heap} {locs : List Loc} (hP : va_P D vwCl (wX7 cA ad X ++ wX8 cA a0 o) H) (hD : va_D (fun q : Nat => s.heap.size ≤ q) (wX7 cA ad X ++ wX8 cA a0 o)) (hS : va_S (fun q : Nat => s.heap.size ≤ q) s.heap H locs) {ls : Array Slot} (hl : lv_has ls 4 [(0, .ref b), (1, .ref (ad 6 0)), (2, .ref (a0 0)), (3, .int (nI i))]) (K : (∀ (X : Nat → Ob) (o : Ob) (H : Heap) (locs : List Loc), Rl X o → va_P D vwCl (wX7 cA ad X ++ wX8 cA a0 o) H → va_D (fun q : Nat => s.heap.size ≤ q) (wX7 cA ad X ++ wX8 cA a0 o) → va_S (fun q : Nat => s.heap.size ≤ q) s.heap H locs → ∀ ls : Array Slot, lv_has ls 4 [(0, .ref b), (1, .ref (ad 6 0)), (2, .ref (a0 0)), (3, .int (nI i))] → W p l e room_1 s m #[Value.ref b] below meth c H locs 68 1770 Q (F0 m 945 ls []))) : W p l e room_1 s m #[Value.ref b] below meth c H locs 68 1770 Q (F0 m 613 ls []) := by
  have hA : ∀ q : Nat, s.heap.size ≤ q → (fun q : Nat => s.heap.size ≤ q) q := fun _ h => h
  have hbA : ¬ (fun q : Nat => s.heap.size ≤ q) b := Nat.not_le.mpr hbl
  have hin1 : vp_in (nI i + (1 : Int32)) L := by rw [show (1 : Int32) = nI 1 from rfl, nI_add]; exact vp_in_nI (by omega) (by omega)
  have hin2 : vp_in (nI i + (2 : Int32)) L := by rw [show (2 : Int32) = nI 2 from rfl, nI_add]; exact vp_in_nI (by omega) (by omega)
  have hin3 : vp_in (nI i + (3 : Int32)) L := by rw [show (3 : Int32) = nI 3 from rfl, nI_add]; exact vp_in_nI (by omega) (by omega)
  refine lv_aload_n hx hb dL_law_613 rfl (lv_at hl 1 rfl) ?_
  refine lv_aload_n hx hb dL_law_614 rfl (lv_at hl 0 rfl) ?_
  refine lv_iload_n hx hb dL_law_615 rfl (lv_at hl 3 rfl) ?_
  refine lv_iconst (v := (1 : Int32)) hx hb dL_law_616 (by decide) ?_
  refine lv_iadd hx hb dL_law_617 ?_
  refine va_sld hx hb hX hbl hbA hS hin1 dL_law_618 ?_
  refine lv_aload_n hx hb dL_law_619 rfl (lv_at hl 0 rfl) ?_
  refine lv_iload_n hx hb dL_law_620 rfl (lv_at hl 3 rfl) ?_
  refine lv_iconst (v := (2 : Int32)) hx hb dL_law_621 (by decide) ?_
  refine lv_iadd hx hb dL_law_622 ?_
  refine va_sld hx hb hX hbl hbA hS hin2 dL_law_623 ?_
  refine lv_aload_n hx hb dL_law_624 rfl (lv_at hl 0 rfl) ?_
  refine lv_iload_n hx hb dL_law_625 rfl (lv_at hl 3 rfl) ?_
  refine lv_iconst (v := (3 : Int32)) hx hb dL_law_626 (by decide) ?_
  refine lv_iadd hx hb dL_law_627 ?_
  refine va_sld hx hb hX hbl hbA hS hin3 dL_law_628 ?_
  obtain ⟨r, e1, e2, hR⟩ := hm X o hR (xs ((nI i) + (1 : Int32)).toNatClampNeg) (xs ((nI i) + (2 : Int32)).toNatClampNeg) (xs ((nI i) + (3 : Int32)).toNatClampNeg)
  refine pR_V (As := [.int (xs ((nI i) + (1 : Int32)).toNatClampNeg), .int (xs ((nI i) + (2 : Int32)).toNatClampNeg), .int (xs ((nI i) + (3 : Int32)).toNatClampNeg)]) (rest := []) (wr := (wX8 cA a0 o)) ⟨hx, hb, hml, hown, hts⟩ (c_X7_fresh l D cA ad X (xs ((nI i) + (1 : Int32)).toNatClampNeg) (xs ((nI i) + (2 : Int32)).toNatClampNeg) (xs ((nI i) + (3 : Int32)).toNatClampNeg) r e1) (cwV 3 hts gL_law_X7_fresh rfl rfl rfl hd_X7_fresh ⟨(Nat.le_of_ble_eq_true rfl), (Nat.le_of_ble_eq_true rfl)⟩) (recvK hK hP 0 7 rfl rfl) hK hP (List.Perm.refl _) rfl hl.1 rfl (Nat.le_of_ble_eq_true rfl) dL_law_629 ⟨(Nat.le_of_ble_eq_true rfl), (Nat.le_of_ble_eq_true rfl)⟩ ?_
  refine lv_aload_n hx hb dL_law_632 rfl (lv_at hl 2 rfl) ?_
  refine lv_aload_n hx hb dL_law_633 rfl (lv_at hl 0 rfl) ?_
  refine lv_iload_n hx hb dL_law_634 rfl (lv_at hl 3 rfl) ?_
  refine lv_iconst (v := (1 : Int32)) hx hb dL_law_635 (by decide) ?_
  refine lv_iadd hx hb dL_law_636 ?_
  refine va_sld hx hb hX hbl hbA hS hin1 dL_law_637 ?_
  refine lv_aload_n hx hb dL_law_638 rfl (lv_at hl 0 rfl) ?_
  refine lv_iload_n hx hb dL_law_639 rfl (lv_at hl 3 rfl) ?_
  refine lv_iconst (v := (2 : Int32)) hx hb dL_law_640 (by decide) ?_
  refine lv_iadd hx hb dL_law_641 ?_
  refine va_sld hx hb hX hbl hbA hS hin2 dL_law_642 ?_
  refine lv_aload_n hx hb dL_law_643 rfl (lv_at hl 0 rfl) ?_
  refine lv_iload_n hx hb dL_law_644 rfl (lv_at hl 3 rfl) ?_
  refine lv_iconst (v := (3 : Int32)) hx hb dL_law_645 (by decide) ?_
  refine lv_iadd hx hb dL_law_646 ?_
  refine va_sld hx hb hX hbl hbA hS hin3 dL_law_647 ?_
  refine pR_V (As := [.int (xs ((nI i) + (1 : Int32)).toNatClampNeg), .int (xs ((nI i) + (2 : Int32)).toNatClampNeg), .int (xs ((nI i) + (3 : Int32)).toNatClampNeg)]) (rest := [.int r]) (wr := (wX7 cA ad X)) ⟨hx, hb, hml, hown, hts⟩ (c_X8_fresh l D cA a0 o (xs ((nI i) + (1 : Int32)).toNatClampNeg) (xs ((nI i) + (2 : Int32)).toNatClampNeg) (xs ((nI i) + (3 : Int32)).toNatClampNeg) r e2) (cwV 3 hts gL_law_X8_fresh rfl rfl rfl hd_X8_fresh ⟨(Nat.le_of_ble_eq_true rfl), (Nat.le_of_ble_eq_true rfl)⟩) (recvK hK (P_left (wc := (wX8 cA a0 o)) (R := (wX7 cA ad X)) List.perm_append_comm hP) 0 8 rfl rfl) hK hP List.perm_append_comm rfl hl.1 rfl (Nat.le_of_ble_eq_true rfl) dL_law_648 ⟨(Nat.le_of_ble_eq_true rfl), (Nat.le_of_ble_eq_true rfl)⟩ ?_
  refine lv_icmp_eq (tgt := 945) hx hb dL_law_651 (by decide) (fun hc => ?_) (fun hc => absurd rfl hc)
  exact K X o _ _ hR hP hD hS ls hl
set_option maxHeartbeats 4000000 in
set_option maxRecDepth 100000 in
theorem lc_orders {p : Program} {l : Launch} {e : Env} {s : State} {m : MethodId} {below : List Frame} {meth : Method} {c : Code} {b L : Nat} {xs : Nat → Int32} {D : va_G} {cA : ClassId} {Q : State → Prop} {Rl : (Nat → Ob) → Ob → Prop} (hm : Sim_orders Rl) (hx : p.tables.exec = Jvm.exec) (hb : c.code = cL_law) (hml : c.maxLocals = 4) (hown : s.vm.findClass RL = some m.cls) (hts : ∀ w ∈ wsL_law, w.before #[Value.ref b] s = true) (hX : va_X b L xs s s.heap) (hbl : b < s.heap.size) (hK : KB D cA s) {i : Nat} (hi : i + 6 ≤ L) (hL : L ≤ 3072) {ad : Nat → Nat → Nat} {a0 : Nat → Nat} {X : Nat → Ob} {o : Ob} (hR : Rl X o) {H : Heap} {locs : List Loc} (hP : va_P D vwCl (wX7 cA ad X ++ wX8 cA a0 o) H) (hD : va_D (fun q : Nat => s.heap.size ≤ q) (wX7 cA ad X ++ wX8 cA a0 o)) (hS : va_S (fun q : Nat => s.heap.size ≤ q) s.heap H locs) {ls : Array Slot} (hl : lv_has ls 4 [(0, .ref b), (1, .ref (ad 6 0)), (2, .ref (a0 0)), (3, .int (nI i))]) (K : (∀ (X : Nat → Ob) (o : Ob) (H : Heap) (locs : List Loc), Rl X o → va_P D vwCl (wX7 cA ad X ++ wX8 cA a0 o) H → va_D (fun q : Nat => s.heap.size ≤ q) (wX7 cA ad X ++ wX8 cA a0 o) → va_S (fun q : Nat => s.heap.size ≤ q) s.heap H locs → ∀ ls : Array Slot, lv_has ls 4 [(0, .ref b), (1, .ref (ad 6 0)), (2, .ref (a0 0)), (3, .int (nI i))] → W p l e room_1 s m #[Value.ref b] below meth c H locs 68 1770 Q (F0 m 945 ls []))) : W p l e room_1 s m #[Value.ref b] below meth c H locs 68 1770 Q (F0 m 656 ls []) := by
  have hA : ∀ q : Nat, s.heap.size ≤ q → (fun q : Nat => s.heap.size ≤ q) q := fun _ h => h
  have hbA : ¬ (fun q : Nat => s.heap.size ≤ q) b := Nat.not_le.mpr hbl
  refine lv_aload_n hx hb dL_law_656 rfl (lv_at hl 1 rfl) ?_
  obtain ⟨r, X_, o_, e1, e2, hR⟩ := hm X o hR
  refine pW_V (As := []) (rest := []) (wr := (wX8 cA a0 o)) (wn := (wX7 cA ad X_ ++ wX8 cA a0 o)) ⟨hx, hb, hml, hown, hts⟩ (c_X7_orders l D cA ad X r X_ e1) (cwV 0 hts gL_law_X7_orders rfl rfl rfl hd_X7_orders ⟨(Nat.le_of_ble_eq_true rfl), (Nat.le_of_ble_eq_true rfl)⟩) (recvK hK hP 0 7 rfl rfl) hK hP hD hS hA (List.Perm.refl _) (List.Perm.refl _) rfl hl.1 rfl (Nat.le_of_ble_eq_true rfl) dL_law_657 ⟨(Nat.le_of_ble_eq_true rfl), (Nat.le_of_ble_eq_true rfl)⟩ (fun H locs hP hD hS => ?_)
  refine lv_aload_n hx hb dL_law_660 rfl (lv_at hl 2 rfl) ?_
  refine pW_V (As := []) (rest := [.int r]) (wr := (wX7 cA ad X_)) (wn := (wX7 cA ad X_ ++ wX8 cA a0 o_)) ⟨hx, hb, hml, hown, hts⟩ (c_X8_orders l D cA a0 o r o_ e2) (cwV 0 hts gL_law_X8_orders rfl rfl rfl hd_X8_orders ⟨(Nat.le_of_ble_eq_true rfl), (Nat.le_of_ble_eq_true rfl)⟩) (recvK hK (P_left (wc := (wX8 cA a0 o)) (R := (wX7 cA ad X_)) List.perm_append_comm hP) 0 8 rfl rfl) hK hP hD hS hA List.perm_append_comm List.perm_append_comm rfl hl.1 rfl (Nat.le_of_ble_eq_true rfl) dL_law_661 ⟨(Nat.le_of_ble_eq_true rfl), (Nat.le_of_ble_eq_true rfl)⟩ (fun H locs hP hD hS => ?_)
  refine lv_icmp_eq (tgt := 945) hx hb dL_law_664 (by decide) (fun hc => ?_) (fun hc => absurd rfl hc)
  exact K X_ o_ _ _ hR hP hD hS ls hl
set_option maxHeartbeats 4000000 in
set_option maxRecDepth 100000 in
theorem lc_tell {p : Program} {l : Launch} {e : Env} {s : State} {m : MethodId} {below : List Frame} {meth : Method} {c : Code} {b L : Nat} {xs : Nat → Int32} {D : va_G} {cA : ClassId} {Q : State → Prop} {Rl : (Nat → Ob) → Ob → Prop} (hm : Sim_tell Rl) (hx : p.tables.exec = Jvm.exec) (hb : c.code = cL_law) (hml : c.maxLocals = 4) (hown : s.vm.findClass RL = some m.cls) (hts : ∀ w ∈ wsL_law, w.before #[Value.ref b] s = true) (hX : va_X b L xs s s.heap) (hbl : b < s.heap.size) (hK : KB D cA s) {i : Nat} (hi : i + 6 ≤ L) (hL : L ≤ 3072) {ad : Nat → Nat → Nat} {a0 : Nat → Nat} {X : Nat → Ob} {o : Ob} (hR : Rl X o) {H : Heap} {locs : List Loc} (hP : va_P D vwCl (wX7 cA ad X ++ wX8 cA a0 o) H) (hD : va_D (fun q : Nat => s.heap.size ≤ q) (wX7 cA ad X ++ wX8 cA a0 o)) (hS : va_S (fun q : Nat => s.heap.size ≤ q) s.heap H locs) {ls : Array Slot} (hl : lv_has ls 4 [(0, .ref b), (1, .ref (ad 6 0)), (2, .ref (a0 0)), (3, .int (nI i))]) (K : (∀ (X : Nat → Ob) (o : Ob) (H : Heap) (locs : List Loc), Rl X o → va_P D vwCl (wX7 cA ad X ++ wX8 cA a0 o) H → va_D (fun q : Nat => s.heap.size ≤ q) (wX7 cA ad X ++ wX8 cA a0 o) → va_S (fun q : Nat => s.heap.size ≤ q) s.heap H locs → ∀ ls : Array Slot, lv_has ls 4 [(0, .ref b), (1, .ref (ad 6 0)), (2, .ref (a0 0)), (3, .int (nI i))] → W p l e room_1 s m #[Value.ref b] below meth c H locs 68 1770 Q (F0 m 945 ls []))) : W p l e room_1 s m #[Value.ref b] below meth c H locs 68 1770 Q (F0 m 669 ls []) := by
  have hA : ∀ q : Nat, s.heap.size ≤ q → (fun q : Nat => s.heap.size ≤ q) q := fun _ h => h
  have hbA : ¬ (fun q : Nat => s.heap.size ≤ q) b := Nat.not_le.mpr hbl
  have hin1 : vp_in (nI i + (1 : Int32)) L := by rw [show (1 : Int32) = nI 1 from rfl, nI_add]; exact vp_in_nI (by omega) (by omega)
  refine lv_aload_n hx hb dL_law_669 rfl (lv_at hl 1 rfl) ?_
  refine lv_aload_n hx hb dL_law_670 rfl (lv_at hl 0 rfl) ?_
  refine lv_iload_n hx hb dL_law_671 rfl (lv_at hl 3 rfl) ?_
  refine lv_iconst (v := (1 : Int32)) hx hb dL_law_672 (by decide) ?_
  refine lv_iadd hx hb dL_law_673 ?_
  refine va_sld hx hb hX hbl hbA hS hin1 dL_law_674 ?_
  obtain ⟨r, X_, o_, e1, e2, hR⟩ := hm X o hR (xs ((nI i) + (1 : Int32)).toNatClampNeg)
  refine pW_V (As := [.int (xs ((nI i) + (1 : Int32)).toNatClampNeg)]) (rest := []) (wr := (wX8 cA a0 o)) (wn := (wX7 cA ad X_ ++ wX8 cA a0 o)) ⟨hx, hb, hml, hown, hts⟩ (c_X7_tell l D cA ad X (xs ((nI i) + (1 : Int32)).toNatClampNeg) r X_ e1) (cwV 1 hts gL_law_X7_tell rfl rfl rfl hd_X7_tell ⟨(Nat.le_of_ble_eq_true rfl), (Nat.le_of_ble_eq_true rfl)⟩) (recvK hK hP 0 7 rfl rfl) hK hP hD hS hA (List.Perm.refl _) (List.Perm.refl _) rfl hl.1 rfl (Nat.le_of_ble_eq_true rfl) dL_law_675 ⟨(Nat.le_of_ble_eq_true rfl), (Nat.le_of_ble_eq_true rfl)⟩ (fun H locs hP hD hS => ?_)
  refine lv_aload_n hx hb dL_law_678 rfl (lv_at hl 2 rfl) ?_
  refine lv_aload_n hx hb dL_law_679 rfl (lv_at hl 0 rfl) ?_
  refine lv_iload_n hx hb dL_law_680 rfl (lv_at hl 3 rfl) ?_
  refine lv_iconst (v := (1 : Int32)) hx hb dL_law_681 (by decide) ?_
  refine lv_iadd hx hb dL_law_682 ?_
  refine va_sld hx hb hX hbl hbA hS hin1 dL_law_683 ?_
  refine pW_V (As := [.int (xs ((nI i) + (1 : Int32)).toNatClampNeg)]) (rest := [.int r]) (wr := (wX7 cA ad X_)) (wn := (wX7 cA ad X_ ++ wX8 cA a0 o_)) ⟨hx, hb, hml, hown, hts⟩ (c_X8_tell l D cA a0 o (xs ((nI i) + (1 : Int32)).toNatClampNeg) r o_ e2) (cwV 1 hts gL_law_X8_tell rfl rfl rfl hd_X8_tell ⟨(Nat.le_of_ble_eq_true rfl), (Nat.le_of_ble_eq_true rfl)⟩) (recvK hK (P_left (wc := (wX8 cA a0 o)) (R := (wX7 cA ad X_)) List.perm_append_comm hP) 0 8 rfl rfl) hK hP hD hS hA List.perm_append_comm List.perm_append_comm rfl hl.1 rfl (Nat.le_of_ble_eq_true rfl) dL_law_684 ⟨(Nat.le_of_ble_eq_true rfl), (Nat.le_of_ble_eq_true rfl)⟩ (fun H locs hP hD hS => ?_)
  refine lv_icmp_eq (tgt := 945) hx hb dL_law_687 (by decide) (fun hc => ?_) (fun hc => absurd rfl hc)
  exact K X_ o_ _ _ hR hP hD hS ls hl
set_option maxHeartbeats 4000000 in
set_option maxRecDepth 100000 in
theorem lc_noRow {p : Program} {l : Launch} {e : Env} {s : State} {m : MethodId} {below : List Frame} {meth : Method} {c : Code} {b L : Nat} {xs : Nat → Int32} {D : va_G} {cA : ClassId} {Q : State → Prop} {Rl : (Nat → Ob) → Ob → Prop} (hm : Sim_noRow Rl) (hx : p.tables.exec = Jvm.exec) (hb : c.code = cL_law) (hml : c.maxLocals = 4) (hown : s.vm.findClass RL = some m.cls) (hts : ∀ w ∈ wsL_law, w.before #[Value.ref b] s = true) (hX : va_X b L xs s s.heap) (hbl : b < s.heap.size) (hK : KB D cA s) {i : Nat} (hi : i + 6 ≤ L) (hL : L ≤ 3072) {ad : Nat → Nat → Nat} {a0 : Nat → Nat} {X : Nat → Ob} {o : Ob} (hR : Rl X o) {H : Heap} {locs : List Loc} (hP : va_P D vwCl (wX7 cA ad X ++ wX8 cA a0 o) H) (hD : va_D (fun q : Nat => s.heap.size ≤ q) (wX7 cA ad X ++ wX8 cA a0 o)) (hS : va_S (fun q : Nat => s.heap.size ≤ q) s.heap H locs) {ls : Array Slot} (hl : lv_has ls 4 [(0, .ref b), (1, .ref (ad 6 0)), (2, .ref (a0 0)), (3, .int (nI i))]) (K : (∀ (X : Nat → Ob) (o : Ob) (H : Heap) (locs : List Loc), Rl X o → va_P D vwCl (wX7 cA ad X ++ wX8 cA a0 o) H → va_D (fun q : Nat => s.heap.size ≤ q) (wX7 cA ad X ++ wX8 cA a0 o) → va_S (fun q : Nat => s.heap.size ≤ q) s.heap H locs → ∀ ls : Array Slot, lv_has ls 4 [(0, .ref b), (1, .ref (ad 6 0)), (2, .ref (a0 0)), (3, .int (nI i))] → W p l e room_1 s m #[Value.ref b] below meth c H locs 68 1770 Q (F0 m 945 ls []))) : W p l e room_1 s m #[Value.ref b] below meth c H locs 68 1770 Q (F0 m 692 ls []) := by
  have hA : ∀ q : Nat, s.heap.size ≤ q → (fun q : Nat => s.heap.size ≤ q) q := fun _ h => h
  have hbA : ¬ (fun q : Nat => s.heap.size ≤ q) b := Nat.not_le.mpr hbl
  refine lv_aload_n hx hb dL_law_692 rfl (lv_at hl 1 rfl) ?_
  obtain ⟨r, X_, o_, e1, e2, hR⟩ := hm X o hR
  refine pW_V (As := []) (rest := []) (wr := (wX8 cA a0 o)) (wn := (wX7 cA ad X_ ++ wX8 cA a0 o)) ⟨hx, hb, hml, hown, hts⟩ (c_X7_noRow l D cA ad X r X_ e1) (cwV 0 hts gL_law_X7_noRow rfl rfl rfl hd_X7_noRow ⟨(Nat.le_of_ble_eq_true rfl), (Nat.le_of_ble_eq_true rfl)⟩) (recvK hK hP 0 7 rfl rfl) hK hP hD hS hA (List.Perm.refl _) (List.Perm.refl _) rfl hl.1 rfl (Nat.le_of_ble_eq_true rfl) dL_law_693 ⟨(Nat.le_of_ble_eq_true rfl), (Nat.le_of_ble_eq_true rfl)⟩ (fun H locs hP hD hS => ?_)
  refine lv_aload_n hx hb dL_law_696 rfl (lv_at hl 2 rfl) ?_
  refine pW_V (As := []) (rest := [.int r]) (wr := (wX7 cA ad X_)) (wn := (wX7 cA ad X_ ++ wX8 cA a0 o_)) ⟨hx, hb, hml, hown, hts⟩ (c_X8_noRow l D cA a0 o r o_ e2) (cwV 0 hts gL_law_X8_noRow rfl rfl rfl hd_X8_noRow ⟨(Nat.le_of_ble_eq_true rfl), (Nat.le_of_ble_eq_true rfl)⟩) (recvK hK (P_left (wc := (wX8 cA a0 o)) (R := (wX7 cA ad X_)) List.perm_append_comm hP) 0 8 rfl rfl) hK hP hD hS hA List.perm_append_comm List.perm_append_comm rfl hl.1 rfl (Nat.le_of_ble_eq_true rfl) dL_law_697 ⟨(Nat.le_of_ble_eq_true rfl), (Nat.le_of_ble_eq_true rfl)⟩ (fun H locs hP hD hS => ?_)
  refine lv_icmp_eq (tgt := 945) hx hb dL_law_700 (by decide) (fun hc => ?_) (fun hc => absurd rfl hc)
  exact K X_ o_ _ _ hR hP hD hS ls hl
set_option maxHeartbeats 4000000 in
set_option maxRecDepth 100000 in
theorem lc_judge {p : Program} {l : Launch} {e : Env} {s : State} {m : MethodId} {below : List Frame} {meth : Method} {c : Code} {b L : Nat} {xs : Nat → Int32} {D : va_G} {cA : ClassId} {Q : State → Prop} {Rl : (Nat → Ob) → Ob → Prop} (hm : Sim_judge Rl) (hx : p.tables.exec = Jvm.exec) (hb : c.code = cL_law) (hml : c.maxLocals = 4) (hown : s.vm.findClass RL = some m.cls) (hts : ∀ w ∈ wsL_law, w.before #[Value.ref b] s = true) (hX : va_X b L xs s s.heap) (hbl : b < s.heap.size) (hK : KB D cA s) {i : Nat} (hi : i + 6 ≤ L) (hL : L ≤ 3072) {ad : Nat → Nat → Nat} {a0 : Nat → Nat} {X : Nat → Ob} {o : Ob} (hR : Rl X o) {H : Heap} {locs : List Loc} (hP : va_P D vwCl (wX7 cA ad X ++ wX8 cA a0 o) H) (hD : va_D (fun q : Nat => s.heap.size ≤ q) (wX7 cA ad X ++ wX8 cA a0 o)) (hS : va_S (fun q : Nat => s.heap.size ≤ q) s.heap H locs) {ls : Array Slot} (hl : lv_has ls 4 [(0, .ref b), (1, .ref (ad 6 0)), (2, .ref (a0 0)), (3, .int (nI i))]) (K : (∀ (X : Nat → Ob) (o : Ob) (H : Heap) (locs : List Loc), Rl X o → va_P D vwCl (wX7 cA ad X ++ wX8 cA a0 o) H → va_D (fun q : Nat => s.heap.size ≤ q) (wX7 cA ad X ++ wX8 cA a0 o) → va_S (fun q : Nat => s.heap.size ≤ q) s.heap H locs → ∀ ls : Array Slot, lv_has ls 4 [(0, .ref b), (1, .ref (ad 6 0)), (2, .ref (a0 0)), (3, .int (nI i))] → W p l e room_1 s m #[Value.ref b] below meth c H locs 68 1770 Q (F0 m 945 ls []))) : W p l e room_1 s m #[Value.ref b] below meth c H locs 68 1770 Q (F0 m 705 ls []) := by
  have hA : ∀ q : Nat, s.heap.size ≤ q → (fun q : Nat => s.heap.size ≤ q) q := fun _ h => h
  have hbA : ¬ (fun q : Nat => s.heap.size ≤ q) b := Nat.not_le.mpr hbl
  refine lv_aload_n hx hb dL_law_705 rfl (lv_at hl 1 rfl) ?_
  obtain ⟨r, e1, e2, hR⟩ := hm X o hR
  refine pR_V (As := []) (rest := []) (wr := (wX8 cA a0 o)) ⟨hx, hb, hml, hown, hts⟩ (c_X7_judge l D cA ad X r e1) (cwV 0 hts gL_law_X7_judge rfl rfl rfl hd_X7_judge ⟨(Nat.le_of_ble_eq_true rfl), (Nat.le_of_ble_eq_true rfl)⟩) (recvK hK hP 0 7 rfl rfl) hK hP (List.Perm.refl _) rfl hl.1 rfl (Nat.le_of_ble_eq_true rfl) dL_law_706 ⟨(Nat.le_of_ble_eq_true rfl), (Nat.le_of_ble_eq_true rfl)⟩ ?_
  refine lv_aload_n hx hb dL_law_709 rfl (lv_at hl 2 rfl) ?_
  refine pR_V (As := []) (rest := [.int r]) (wr := (wX7 cA ad X)) ⟨hx, hb, hml, hown, hts⟩ (c_X8_judge l D cA a0 o r e2) (cwV 0 hts gL_law_X8_judge rfl rfl rfl hd_X8_judge ⟨(Nat.le_of_ble_eq_true rfl), (Nat.le_of_ble_eq_true rfl)⟩) (recvK hK (P_left (wc := (wX8 cA a0 o)) (R := (wX7 cA ad X)) List.perm_append_comm hP) 0 8 rfl rfl) hK hP List.perm_append_comm rfl hl.1 rfl (Nat.le_of_ble_eq_true rfl) dL_law_710 ⟨(Nat.le_of_ble_eq_true rfl), (Nat.le_of_ble_eq_true rfl)⟩ ?_
  refine lv_icmp_eq (tgt := 945) hx hb dL_law_713 (by decide) (fun hc => ?_) (fun hc => absurd rfl hc)
  exact K X o _ _ hR hP hD hS ls hl
set_option maxHeartbeats 4000000 in
set_option maxRecDepth 100000 in
theorem lc_cross {p : Program} {l : Launch} {e : Env} {s : State} {m : MethodId} {below : List Frame} {meth : Method} {c : Code} {b L : Nat} {xs : Nat → Int32} {D : va_G} {cA : ClassId} {Q : State → Prop} {Rl : (Nat → Ob) → Ob → Prop} (hm : Sim_cross Rl) (hx : p.tables.exec = Jvm.exec) (hb : c.code = cL_law) (hml : c.maxLocals = 4) (hown : s.vm.findClass RL = some m.cls) (hts : ∀ w ∈ wsL_law, w.before #[Value.ref b] s = true) (hX : va_X b L xs s s.heap) (hbl : b < s.heap.size) (hK : KB D cA s) {i : Nat} (hi : i + 6 ≤ L) (hL : L ≤ 3072) {ad : Nat → Nat → Nat} {a0 : Nat → Nat} {X : Nat → Ob} {o : Ob} (hR : Rl X o) {H : Heap} {locs : List Loc} (hP : va_P D vwCl (wX7 cA ad X ++ wX8 cA a0 o) H) (hD : va_D (fun q : Nat => s.heap.size ≤ q) (wX7 cA ad X ++ wX8 cA a0 o)) (hS : va_S (fun q : Nat => s.heap.size ≤ q) s.heap H locs) {ls : Array Slot} (hl : lv_has ls 4 [(0, .ref b), (1, .ref (ad 6 0)), (2, .ref (a0 0)), (3, .int (nI i))]) (K : (∀ (X : Nat → Ob) (o : Ob) (H : Heap) (locs : List Loc), Rl X o → va_P D vwCl (wX7 cA ad X ++ wX8 cA a0 o) H → va_D (fun q : Nat => s.heap.size ≤ q) (wX7 cA ad X ++ wX8 cA a0 o) → va_S (fun q : Nat => s.heap.size ≤ q) s.heap H locs → ∀ ls : Array Slot, lv_has ls 4 [(0, .ref b), (1, .ref (ad 6 0)), (2, .ref (a0 0)), (3, .int (nI i))] → W p l e room_1 s m #[Value.ref b] below meth c H locs 68 1770 Q (F0 m 945 ls []))) : W p l e room_1 s m #[Value.ref b] below meth c H locs 68 1770 Q (F0 m 718 ls []) := by
  have hA : ∀ q : Nat, s.heap.size ≤ q → (fun q : Nat => s.heap.size ≤ q) q := fun _ h => h
  have hbA : ¬ (fun q : Nat => s.heap.size ≤ q) b := Nat.not_le.mpr hbl
  have hin1 : vp_in (nI i + (1 : Int32)) L := by rw [show (1 : Int32) = nI 1 from rfl, nI_add]; exact vp_in_nI (by omega) (by omega)
  have hin2 : vp_in (nI i + (2 : Int32)) L := by rw [show (2 : Int32) = nI 2 from rfl, nI_add]; exact vp_in_nI (by omega) (by omega)
  refine lv_aload_n hx hb dL_law_718 rfl (lv_at hl 1 rfl) ?_
  refine lv_aload_n hx hb dL_law_719 rfl (lv_at hl 0 rfl) ?_
  refine lv_iload_n hx hb dL_law_720 rfl (lv_at hl 3 rfl) ?_
  refine lv_iconst (v := (1 : Int32)) hx hb dL_law_721 (by decide) ?_
  refine lv_iadd hx hb dL_law_722 ?_
  refine va_sld hx hb hX hbl hbA hS hin1 dL_law_723 ?_
  refine lv_aload_n hx hb dL_law_724 rfl (lv_at hl 0 rfl) ?_
  refine lv_iload_n hx hb dL_law_725 rfl (lv_at hl 3 rfl) ?_
  refine lv_iconst (v := (2 : Int32)) hx hb dL_law_726 (by decide) ?_
  refine lv_iadd hx hb dL_law_727 ?_
  refine va_sld hx hb hX hbl hbA hS hin2 dL_law_728 ?_
  obtain ⟨r, X_, o_, e1, e2, hR⟩ := hm X o hR (xs ((nI i) + (1 : Int32)).toNatClampNeg) (xs ((nI i) + (2 : Int32)).toNatClampNeg)
  refine pW_V (As := [.int (xs ((nI i) + (1 : Int32)).toNatClampNeg), .int (xs ((nI i) + (2 : Int32)).toNatClampNeg)]) (rest := []) (wr := (wX8 cA a0 o)) (wn := (wX7 cA ad X_ ++ wX8 cA a0 o)) ⟨hx, hb, hml, hown, hts⟩ (c_X7_cross l D cA ad X (xs ((nI i) + (1 : Int32)).toNatClampNeg) (xs ((nI i) + (2 : Int32)).toNatClampNeg) r X_ e1) (cwV 2 hts gL_law_X7_cross rfl rfl rfl hd_X7_cross ⟨(Nat.le_of_ble_eq_true rfl), (Nat.le_of_ble_eq_true rfl)⟩) (recvK hK hP 0 7 rfl rfl) hK hP hD hS hA (List.Perm.refl _) (List.Perm.refl _) rfl hl.1 rfl (Nat.le_of_ble_eq_true rfl) dL_law_729 ⟨(Nat.le_of_ble_eq_true rfl), (Nat.le_of_ble_eq_true rfl)⟩ (fun H locs hP hD hS => ?_)
  refine lv_aload_n hx hb dL_law_732 rfl (lv_at hl 2 rfl) ?_
  refine lv_aload_n hx hb dL_law_733 rfl (lv_at hl 0 rfl) ?_
  refine lv_iload_n hx hb dL_law_734 rfl (lv_at hl 3 rfl) ?_
  refine lv_iconst (v := (1 : Int32)) hx hb dL_law_735 (by decide) ?_
  refine lv_iadd hx hb dL_law_736 ?_
  refine va_sld hx hb hX hbl hbA hS hin1 dL_law_737 ?_
  refine lv_aload_n hx hb dL_law_738 rfl (lv_at hl 0 rfl) ?_
  refine lv_iload_n hx hb dL_law_739 rfl (lv_at hl 3 rfl) ?_
  refine lv_iconst (v := (2 : Int32)) hx hb dL_law_740 (by decide) ?_
  refine lv_iadd hx hb dL_law_741 ?_
  refine va_sld hx hb hX hbl hbA hS hin2 dL_law_742 ?_
  refine pW_V (As := [.int (xs ((nI i) + (1 : Int32)).toNatClampNeg), .int (xs ((nI i) + (2 : Int32)).toNatClampNeg)]) (rest := [.int r]) (wr := (wX7 cA ad X_)) (wn := (wX7 cA ad X_ ++ wX8 cA a0 o_)) ⟨hx, hb, hml, hown, hts⟩ (c_X8_cross l D cA a0 o (xs ((nI i) + (1 : Int32)).toNatClampNeg) (xs ((nI i) + (2 : Int32)).toNatClampNeg) r o_ e2) (cwV 2 hts gL_law_X8_cross rfl rfl rfl hd_X8_cross ⟨(Nat.le_of_ble_eq_true rfl), (Nat.le_of_ble_eq_true rfl)⟩) (recvK hK (P_left (wc := (wX8 cA a0 o)) (R := (wX7 cA ad X_)) List.perm_append_comm hP) 0 8 rfl rfl) hK hP hD hS hA List.perm_append_comm List.perm_append_comm rfl hl.1 rfl (Nat.le_of_ble_eq_true rfl) dL_law_743 ⟨(Nat.le_of_ble_eq_true rfl), (Nat.le_of_ble_eq_true rfl)⟩ (fun H locs hP hD hS => ?_)
  refine lv_icmp_eq (tgt := 945) hx hb dL_law_746 (by decide) (fun hc => ?_) (fun hc => absurd rfl hc)
  exact K X_ o_ _ _ hR hP hD hS ls hl
set_option maxHeartbeats 4000000 in
set_option maxRecDepth 100000 in
theorem lc_smooth {p : Program} {l : Launch} {e : Env} {s : State} {m : MethodId} {below : List Frame} {meth : Method} {c : Code} {b L : Nat} {xs : Nat → Int32} {D : va_G} {cA : ClassId} {Q : State → Prop} {Rl : (Nat → Ob) → Ob → Prop} (hm : Sim_smooth Rl) (hx : p.tables.exec = Jvm.exec) (hb : c.code = cL_law) (hml : c.maxLocals = 4) (hown : s.vm.findClass RL = some m.cls) (hts : ∀ w ∈ wsL_law, w.before #[Value.ref b] s = true) (hX : va_X b L xs s s.heap) (hbl : b < s.heap.size) (hK : KB D cA s) {i : Nat} (hi : i + 6 ≤ L) (hL : L ≤ 3072) {ad : Nat → Nat → Nat} {a0 : Nat → Nat} {X : Nat → Ob} {o : Ob} (hR : Rl X o) {H : Heap} {locs : List Loc} (hP : va_P D vwCl (wX7 cA ad X ++ wX8 cA a0 o) H) (hD : va_D (fun q : Nat => s.heap.size ≤ q) (wX7 cA ad X ++ wX8 cA a0 o)) (hS : va_S (fun q : Nat => s.heap.size ≤ q) s.heap H locs) {ls : Array Slot} (hl : lv_has ls 4 [(0, .ref b), (1, .ref (ad 6 0)), (2, .ref (a0 0)), (3, .int (nI i))]) (K : (∀ (X : Nat → Ob) (o : Ob) (H : Heap) (locs : List Loc), Rl X o → va_P D vwCl (wX7 cA ad X ++ wX8 cA a0 o) H → va_D (fun q : Nat => s.heap.size ≤ q) (wX7 cA ad X ++ wX8 cA a0 o) → va_S (fun q : Nat => s.heap.size ≤ q) s.heap H locs → ∀ ls : Array Slot, lv_has ls 4 [(0, .ref b), (1, .ref (ad 6 0)), (2, .ref (a0 0)), (3, .int (nI i))] → W p l e room_1 s m #[Value.ref b] below meth c H locs 68 1770 Q (F0 m 945 ls []))) : W p l e room_1 s m #[Value.ref b] below meth c H locs 68 1770 Q (F0 m 751 ls []) := by
  have hA : ∀ q : Nat, s.heap.size ≤ q → (fun q : Nat => s.heap.size ≤ q) q := fun _ h => h
  have hbA : ¬ (fun q : Nat => s.heap.size ≤ q) b := Nat.not_le.mpr hbl
  have hin1 : vp_in (nI i + (1 : Int32)) L := by rw [show (1 : Int32) = nI 1 from rfl, nI_add]; exact vp_in_nI (by omega) (by omega)
  refine lv_aload_n hx hb dL_law_751 rfl (lv_at hl 1 rfl) ?_
  refine lv_aload_n hx hb dL_law_752 rfl (lv_at hl 0 rfl) ?_
  refine lv_iload_n hx hb dL_law_753 rfl (lv_at hl 3 rfl) ?_
  refine lv_iconst (v := (1 : Int32)) hx hb dL_law_754 (by decide) ?_
  refine lv_iadd hx hb dL_law_755 ?_
  refine va_sld hx hb hX hbl hbA hS hin1 dL_law_756 ?_
  obtain ⟨r, X_, o_, e1, e2, hR⟩ := hm X o hR (xs ((nI i) + (1 : Int32)).toNatClampNeg)
  refine pW_V (As := [.int (xs ((nI i) + (1 : Int32)).toNatClampNeg)]) (rest := []) (wr := (wX8 cA a0 o)) (wn := (wX7 cA ad X_ ++ wX8 cA a0 o)) ⟨hx, hb, hml, hown, hts⟩ (c_X7_smooth l D cA ad X (xs ((nI i) + (1 : Int32)).toNatClampNeg) r X_ e1) (cwV 1 hts gL_law_X7_smooth rfl rfl rfl hd_X7_smooth ⟨(Nat.le_of_ble_eq_true rfl), (Nat.le_of_ble_eq_true rfl)⟩) (recvK hK hP 0 7 rfl rfl) hK hP hD hS hA (List.Perm.refl _) (List.Perm.refl _) rfl hl.1 rfl (Nat.le_of_ble_eq_true rfl) dL_law_757 ⟨(Nat.le_of_ble_eq_true rfl), (Nat.le_of_ble_eq_true rfl)⟩ (fun H locs hP hD hS => ?_)
  refine lv_aload_n hx hb dL_law_760 rfl (lv_at hl 2 rfl) ?_
  refine lv_aload_n hx hb dL_law_761 rfl (lv_at hl 0 rfl) ?_
  refine lv_iload_n hx hb dL_law_762 rfl (lv_at hl 3 rfl) ?_
  refine lv_iconst (v := (1 : Int32)) hx hb dL_law_763 (by decide) ?_
  refine lv_iadd hx hb dL_law_764 ?_
  refine va_sld hx hb hX hbl hbA hS hin1 dL_law_765 ?_
  refine pW_V (As := [.int (xs ((nI i) + (1 : Int32)).toNatClampNeg)]) (rest := [.int r]) (wr := (wX7 cA ad X_)) (wn := (wX7 cA ad X_ ++ wX8 cA a0 o_)) ⟨hx, hb, hml, hown, hts⟩ (c_X8_smooth l D cA a0 o (xs ((nI i) + (1 : Int32)).toNatClampNeg) r o_ e2) (cwV 1 hts gL_law_X8_smooth rfl rfl rfl hd_X8_smooth ⟨(Nat.le_of_ble_eq_true rfl), (Nat.le_of_ble_eq_true rfl)⟩) (recvK hK (P_left (wc := (wX8 cA a0 o)) (R := (wX7 cA ad X_)) List.perm_append_comm hP) 0 8 rfl rfl) hK hP hD hS hA List.perm_append_comm List.perm_append_comm rfl hl.1 rfl (Nat.le_of_ble_eq_true rfl) dL_law_766 ⟨(Nat.le_of_ble_eq_true rfl), (Nat.le_of_ble_eq_true rfl)⟩ (fun H locs hP hD hS => ?_)
  refine lv_icmp_eq (tgt := 945) hx hb dL_law_769 (by decide) (fun hc => ?_) (fun hc => absurd rfl hc)
  exact K X_ o_ _ _ hR hP hD hS ls hl
set_option maxHeartbeats 4000000 in
set_option maxRecDepth 100000 in
theorem lc_loose {p : Program} {l : Launch} {e : Env} {s : State} {m : MethodId} {below : List Frame} {meth : Method} {c : Code} {b L : Nat} {xs : Nat → Int32} {D : va_G} {cA : ClassId} {Q : State → Prop} {Rl : (Nat → Ob) → Ob → Prop} (hm : Sim_loose Rl) (hx : p.tables.exec = Jvm.exec) (hb : c.code = cL_law) (hml : c.maxLocals = 4) (hown : s.vm.findClass RL = some m.cls) (hts : ∀ w ∈ wsL_law, w.before #[Value.ref b] s = true) (hX : va_X b L xs s s.heap) (hbl : b < s.heap.size) (hK : KB D cA s) {i : Nat} (hi : i + 6 ≤ L) (hL : L ≤ 3072) {ad : Nat → Nat → Nat} {a0 : Nat → Nat} {X : Nat → Ob} {o : Ob} (hR : Rl X o) {H : Heap} {locs : List Loc} (hP : va_P D vwCl (wX7 cA ad X ++ wX8 cA a0 o) H) (hD : va_D (fun q : Nat => s.heap.size ≤ q) (wX7 cA ad X ++ wX8 cA a0 o)) (hS : va_S (fun q : Nat => s.heap.size ≤ q) s.heap H locs) {ls : Array Slot} (hl : lv_has ls 4 [(0, .ref b), (1, .ref (ad 6 0)), (2, .ref (a0 0)), (3, .int (nI i))]) (K : (∀ (X : Nat → Ob) (o : Ob) (H : Heap) (locs : List Loc), Rl X o → va_P D vwCl (wX7 cA ad X ++ wX8 cA a0 o) H → va_D (fun q : Nat => s.heap.size ≤ q) (wX7 cA ad X ++ wX8 cA a0 o) → va_S (fun q : Nat => s.heap.size ≤ q) s.heap H locs → ∀ ls : Array Slot, lv_has ls 4 [(0, .ref b), (1, .ref (ad 6 0)), (2, .ref (a0 0)), (3, .int (nI i))] → W p l e room_1 s m #[Value.ref b] below meth c H locs 68 1770 Q (F0 m 945 ls []))) : W p l e room_1 s m #[Value.ref b] below meth c H locs 68 1770 Q (F0 m 774 ls []) := by
  have hA : ∀ q : Nat, s.heap.size ≤ q → (fun q : Nat => s.heap.size ≤ q) q := fun _ h => h
  have hbA : ¬ (fun q : Nat => s.heap.size ≤ q) b := Nat.not_le.mpr hbl
  have hin1 : vp_in (nI i + (1 : Int32)) L := by rw [show (1 : Int32) = nI 1 from rfl, nI_add]; exact vp_in_nI (by omega) (by omega)
  have hin2 : vp_in (nI i + (2 : Int32)) L := by rw [show (2 : Int32) = nI 2 from rfl, nI_add]; exact vp_in_nI (by omega) (by omega)
  refine lv_aload_n hx hb dL_law_774 rfl (lv_at hl 1 rfl) ?_
  refine lv_aload_n hx hb dL_law_775 rfl (lv_at hl 0 rfl) ?_
  refine lv_iload_n hx hb dL_law_776 rfl (lv_at hl 3 rfl) ?_
  refine lv_iconst (v := (1 : Int32)) hx hb dL_law_777 (by decide) ?_
  refine lv_iadd hx hb dL_law_778 ?_
  refine va_sld hx hb hX hbl hbA hS hin1 dL_law_779 ?_
  refine lv_aload_n hx hb dL_law_780 rfl (lv_at hl 0 rfl) ?_
  refine lv_iload_n hx hb dL_law_781 rfl (lv_at hl 3 rfl) ?_
  refine lv_iconst (v := (2 : Int32)) hx hb dL_law_782 (by decide) ?_
  refine lv_iadd hx hb dL_law_783 ?_
  refine va_sld hx hb hX hbl hbA hS hin2 dL_law_784 ?_
  obtain ⟨r, o_, e1, e2, hR⟩ := hm X o hR (xs ((nI i) + (1 : Int32)).toNatClampNeg) (xs ((nI i) + (2 : Int32)).toNatClampNeg)
  refine pR_V (As := [.int (xs ((nI i) + (1 : Int32)).toNatClampNeg), .int (xs ((nI i) + (2 : Int32)).toNatClampNeg)]) (rest := []) (wr := (wX8 cA a0 o)) ⟨hx, hb, hml, hown, hts⟩ (c_X7_loose l D cA ad X (xs ((nI i) + (1 : Int32)).toNatClampNeg) (xs ((nI i) + (2 : Int32)).toNatClampNeg) r e1) (cwV 2 hts gL_law_X7_loose rfl rfl rfl hd_X7_loose ⟨(Nat.le_of_ble_eq_true rfl), (Nat.le_of_ble_eq_true rfl)⟩) (recvK hK hP 0 7 rfl rfl) hK hP (List.Perm.refl _) rfl hl.1 rfl (Nat.le_of_ble_eq_true rfl) dL_law_785 ⟨(Nat.le_of_ble_eq_true rfl), (Nat.le_of_ble_eq_true rfl)⟩ ?_
  refine lv_aload_n hx hb dL_law_788 rfl (lv_at hl 2 rfl) ?_
  refine lv_aload_n hx hb dL_law_789 rfl (lv_at hl 0 rfl) ?_
  refine lv_iload_n hx hb dL_law_790 rfl (lv_at hl 3 rfl) ?_
  refine lv_iconst (v := (1 : Int32)) hx hb dL_law_791 (by decide) ?_
  refine lv_iadd hx hb dL_law_792 ?_
  refine va_sld hx hb hX hbl hbA hS hin1 dL_law_793 ?_
  refine lv_aload_n hx hb dL_law_794 rfl (lv_at hl 0 rfl) ?_
  refine lv_iload_n hx hb dL_law_795 rfl (lv_at hl 3 rfl) ?_
  refine lv_iconst (v := (2 : Int32)) hx hb dL_law_796 (by decide) ?_
  refine lv_iadd hx hb dL_law_797 ?_
  refine va_sld hx hb hX hbl hbA hS hin2 dL_law_798 ?_
  refine pW_V (As := [.int (xs ((nI i) + (1 : Int32)).toNatClampNeg), .int (xs ((nI i) + (2 : Int32)).toNatClampNeg)]) (rest := [.int r]) (wr := (wX7 cA ad X)) (wn := (wX7 cA ad X ++ wX8 cA a0 o_)) ⟨hx, hb, hml, hown, hts⟩ (c_X8_loose l D cA a0 o (xs ((nI i) + (1 : Int32)).toNatClampNeg) (xs ((nI i) + (2 : Int32)).toNatClampNeg) r o_ e2) (cwV 2 hts gL_law_X8_loose rfl rfl rfl hd_X8_loose ⟨(Nat.le_of_ble_eq_true rfl), (Nat.le_of_ble_eq_true rfl)⟩) (recvK hK (P_left (wc := (wX8 cA a0 o)) (R := (wX7 cA ad X)) List.perm_append_comm hP) 0 8 rfl rfl) hK hP hD hS hA List.perm_append_comm List.perm_append_comm rfl hl.1 rfl (Nat.le_of_ble_eq_true rfl) dL_law_799 ⟨(Nat.le_of_ble_eq_true rfl), (Nat.le_of_ble_eq_true rfl)⟩ (fun H locs hP hD hS => ?_)
  refine lv_icmp_eq (tgt := 945) hx hb dL_law_802 (by decide) (fun hc => ?_) (fun hc => absurd rfl hc)
  exact K X o_ _ _ hR hP hD hS ls hl
set_option maxHeartbeats 4000000 in
set_option maxRecDepth 100000 in
theorem lc_alike {p : Program} {l : Launch} {e : Env} {s : State} {m : MethodId} {below : List Frame} {meth : Method} {c : Code} {b L : Nat} {xs : Nat → Int32} {D : va_G} {cA : ClassId} {Q : State → Prop} {Rl : (Nat → Ob) → Ob → Prop} (hm : Sim_alike Rl) (hx : p.tables.exec = Jvm.exec) (hb : c.code = cL_law) (hml : c.maxLocals = 4) (hown : s.vm.findClass RL = some m.cls) (hts : ∀ w ∈ wsL_law, w.before #[Value.ref b] s = true) (hX : va_X b L xs s s.heap) (hbl : b < s.heap.size) (hK : KB D cA s) {i : Nat} (hi : i + 6 ≤ L) (hL : L ≤ 3072) {ad : Nat → Nat → Nat} {a0 : Nat → Nat} {X : Nat → Ob} {o : Ob} (hR : Rl X o) {H : Heap} {locs : List Loc} (hP : va_P D vwCl (wX7 cA ad X ++ wX8 cA a0 o) H) (hD : va_D (fun q : Nat => s.heap.size ≤ q) (wX7 cA ad X ++ wX8 cA a0 o)) (hS : va_S (fun q : Nat => s.heap.size ≤ q) s.heap H locs) {ls : Array Slot} (hl : lv_has ls 4 [(0, .ref b), (1, .ref (ad 6 0)), (2, .ref (a0 0)), (3, .int (nI i))]) (K : (∀ (X : Nat → Ob) (o : Ob) (H : Heap) (locs : List Loc), Rl X o → va_P D vwCl (wX7 cA ad X ++ wX8 cA a0 o) H → va_D (fun q : Nat => s.heap.size ≤ q) (wX7 cA ad X ++ wX8 cA a0 o) → va_S (fun q : Nat => s.heap.size ≤ q) s.heap H locs → ∀ ls : Array Slot, lv_has ls 4 [(0, .ref b), (1, .ref (ad 6 0)), (2, .ref (a0 0)), (3, .int (nI i))] → W p l e room_1 s m #[Value.ref b] below meth c H locs 68 1770 Q (F0 m 945 ls []))) : W p l e room_1 s m #[Value.ref b] below meth c H locs 68 1770 Q (F0 m 807 ls []) := by
  have hA : ∀ q : Nat, s.heap.size ≤ q → (fun q : Nat => s.heap.size ≤ q) q := fun _ h => h
  have hbA : ¬ (fun q : Nat => s.heap.size ≤ q) b := Nat.not_le.mpr hbl
  refine lv_aload_n hx hb dL_law_807 rfl (lv_at hl 1 rfl) ?_
  obtain ⟨r, o_, e1, e2, hR⟩ := hm X o hR
  refine pR_V (As := []) (rest := []) (wr := (wX8 cA a0 o)) ⟨hx, hb, hml, hown, hts⟩ (c_X7_alike l D cA ad X r e1) (cwV 0 hts gL_law_X7_alike rfl rfl rfl hd_X7_alike ⟨(Nat.le_of_ble_eq_true rfl), (Nat.le_of_ble_eq_true rfl)⟩) (recvK hK hP 0 7 rfl rfl) hK hP (List.Perm.refl _) rfl hl.1 rfl (Nat.le_of_ble_eq_true rfl) dL_law_808 ⟨(Nat.le_of_ble_eq_true rfl), (Nat.le_of_ble_eq_true rfl)⟩ ?_
  refine lv_aload_n hx hb dL_law_811 rfl (lv_at hl 2 rfl) ?_
  refine pW_V (As := []) (rest := [.int r]) (wr := (wX7 cA ad X)) (wn := (wX7 cA ad X ++ wX8 cA a0 o_)) ⟨hx, hb, hml, hown, hts⟩ (c_X8_alike l D cA a0 o r o_ e2) (cwV 0 hts gL_law_X8_alike rfl rfl rfl hd_X8_alike ⟨(Nat.le_of_ble_eq_true rfl), (Nat.le_of_ble_eq_true rfl)⟩) (recvK hK (P_left (wc := (wX8 cA a0 o)) (R := (wX7 cA ad X)) List.perm_append_comm hP) 0 8 rfl rfl) hK hP hD hS hA List.perm_append_comm List.perm_append_comm rfl hl.1 rfl (Nat.le_of_ble_eq_true rfl) dL_law_812 ⟨(Nat.le_of_ble_eq_true rfl), (Nat.le_of_ble_eq_true rfl)⟩ (fun H locs hP hD hS => ?_)
  refine lv_icmp_eq (tgt := 945) hx hb dL_law_815 (by decide) (fun hc => ?_) (fun hc => absurd rfl hc)
  exact K X o_ _ _ hR hP hD hS ls hl
set_option maxHeartbeats 4000000 in
set_option maxRecDepth 100000 in
theorem lc_mark {p : Program} {l : Launch} {e : Env} {s : State} {m : MethodId} {below : List Frame} {meth : Method} {c : Code} {b L : Nat} {xs : Nat → Int32} {D : va_G} {cA : ClassId} {Q : State → Prop} {Rl : (Nat → Ob) → Ob → Prop} (hm : Sim_mark Rl) (hx : p.tables.exec = Jvm.exec) (hb : c.code = cL_law) (hml : c.maxLocals = 4) (hown : s.vm.findClass RL = some m.cls) (hts : ∀ w ∈ wsL_law, w.before #[Value.ref b] s = true) (hX : va_X b L xs s s.heap) (hbl : b < s.heap.size) (hK : KB D cA s) {i : Nat} (hi : i + 6 ≤ L) (hL : L ≤ 3072) {ad : Nat → Nat → Nat} {a0 : Nat → Nat} {X : Nat → Ob} {o : Ob} (hR : Rl X o) {H : Heap} {locs : List Loc} (hP : va_P D vwCl (wX7 cA ad X ++ wX8 cA a0 o) H) (hD : va_D (fun q : Nat => s.heap.size ≤ q) (wX7 cA ad X ++ wX8 cA a0 o)) (hS : va_S (fun q : Nat => s.heap.size ≤ q) s.heap H locs) {ls : Array Slot} (hl : lv_has ls 4 [(0, .ref b), (1, .ref (ad 6 0)), (2, .ref (a0 0)), (3, .int (nI i))]) (K : (∀ (X : Nat → Ob) (o : Ob) (H : Heap) (locs : List Loc), Rl X o → va_P D vwCl (wX7 cA ad X ++ wX8 cA a0 o) H → va_D (fun q : Nat => s.heap.size ≤ q) (wX7 cA ad X ++ wX8 cA a0 o) → va_S (fun q : Nat => s.heap.size ≤ q) s.heap H locs → ∀ ls : Array Slot, lv_has ls 4 [(0, .ref b), (1, .ref (ad 6 0)), (2, .ref (a0 0)), (3, .int (nI i))] → W p l e room_1 s m #[Value.ref b] below meth c H locs 68 1770 Q (F0 m 945 ls []))) : W p l e room_1 s m #[Value.ref b] below meth c H locs 68 1770 Q (F0 m 820 ls []) := by
  have hA : ∀ q : Nat, s.heap.size ≤ q → (fun q : Nat => s.heap.size ≤ q) q := fun _ h => h
  have hbA : ¬ (fun q : Nat => s.heap.size ≤ q) b := Nat.not_le.mpr hbl
  have hin1 : vp_in (nI i + (1 : Int32)) L := by rw [show (1 : Int32) = nI 1 from rfl, nI_add]; exact vp_in_nI (by omega) (by omega)
  have hin2 : vp_in (nI i + (2 : Int32)) L := by rw [show (2 : Int32) = nI 2 from rfl, nI_add]; exact vp_in_nI (by omega) (by omega)
  refine lv_aload_n hx hb dL_law_820 rfl (lv_at hl 1 rfl) ?_
  refine lv_aload_n hx hb dL_law_821 rfl (lv_at hl 0 rfl) ?_
  refine lv_iload_n hx hb dL_law_822 rfl (lv_at hl 3 rfl) ?_
  refine lv_iconst (v := (1 : Int32)) hx hb dL_law_823 (by decide) ?_
  refine lv_iadd hx hb dL_law_824 ?_
  refine va_sld hx hb hX hbl hbA hS hin1 dL_law_825 ?_
  refine lv_aload_n hx hb dL_law_826 rfl (lv_at hl 0 rfl) ?_
  refine lv_iload_n hx hb dL_law_827 rfl (lv_at hl 3 rfl) ?_
  refine lv_iconst (v := (2 : Int32)) hx hb dL_law_828 (by decide) ?_
  refine lv_iadd hx hb dL_law_829 ?_
  refine va_sld hx hb hX hbl hbA hS hin2 dL_law_830 ?_
  obtain ⟨r, e1, e2, hR⟩ := hm X o hR (xs ((nI i) + (1 : Int32)).toNatClampNeg) (xs ((nI i) + (2 : Int32)).toNatClampNeg)
  refine pR_V (As := [.int (xs ((nI i) + (1 : Int32)).toNatClampNeg), .int (xs ((nI i) + (2 : Int32)).toNatClampNeg)]) (rest := []) (wr := (wX8 cA a0 o)) ⟨hx, hb, hml, hown, hts⟩ (c_X7_mark l D cA ad X (xs ((nI i) + (1 : Int32)).toNatClampNeg) (xs ((nI i) + (2 : Int32)).toNatClampNeg) r e1) (cwV 2 hts gL_law_X7_mark rfl rfl rfl hd_X7_mark ⟨(Nat.le_of_ble_eq_true rfl), (Nat.le_of_ble_eq_true rfl)⟩) (recvK hK hP 0 7 rfl rfl) hK hP (List.Perm.refl _) rfl hl.1 rfl (Nat.le_of_ble_eq_true rfl) dL_law_831 ⟨(Nat.le_of_ble_eq_true rfl), (Nat.le_of_ble_eq_true rfl)⟩ ?_
  refine lv_aload_n hx hb dL_law_834 rfl (lv_at hl 2 rfl) ?_
  refine lv_aload_n hx hb dL_law_835 rfl (lv_at hl 0 rfl) ?_
  refine lv_iload_n hx hb dL_law_836 rfl (lv_at hl 3 rfl) ?_
  refine lv_iconst (v := (1 : Int32)) hx hb dL_law_837 (by decide) ?_
  refine lv_iadd hx hb dL_law_838 ?_
  refine va_sld hx hb hX hbl hbA hS hin1 dL_law_839 ?_
  refine lv_aload_n hx hb dL_law_840 rfl (lv_at hl 0 rfl) ?_
  refine lv_iload_n hx hb dL_law_841 rfl (lv_at hl 3 rfl) ?_
  refine lv_iconst (v := (2 : Int32)) hx hb dL_law_842 (by decide) ?_
  refine lv_iadd hx hb dL_law_843 ?_
  refine va_sld hx hb hX hbl hbA hS hin2 dL_law_844 ?_
  refine pR_V (As := [.int (xs ((nI i) + (1 : Int32)).toNatClampNeg), .int (xs ((nI i) + (2 : Int32)).toNatClampNeg)]) (rest := [.int r]) (wr := (wX7 cA ad X)) ⟨hx, hb, hml, hown, hts⟩ (c_X8_mark l D cA a0 o (xs ((nI i) + (1 : Int32)).toNatClampNeg) (xs ((nI i) + (2 : Int32)).toNatClampNeg) r e2) (cwV 2 hts gL_law_X8_mark rfl rfl rfl hd_X8_mark ⟨(Nat.le_of_ble_eq_true rfl), (Nat.le_of_ble_eq_true rfl)⟩) (recvK hK (P_left (wc := (wX8 cA a0 o)) (R := (wX7 cA ad X)) List.perm_append_comm hP) 0 8 rfl rfl) hK hP List.perm_append_comm rfl hl.1 rfl (Nat.le_of_ble_eq_true rfl) dL_law_845 ⟨(Nat.le_of_ble_eq_true rfl), (Nat.le_of_ble_eq_true rfl)⟩ ?_
  refine lv_icmp_eq (tgt := 945) hx hb dL_law_848 (by decide) (fun hc => ?_) (fun hc => absurd rfl hc)
  exact K X o _ _ hR hP hD hS ls hl
set_option maxHeartbeats 4000000 in
set_option maxRecDepth 100000 in
theorem lc_year {p : Program} {l : Launch} {e : Env} {s : State} {m : MethodId} {below : List Frame} {meth : Method} {c : Code} {b L : Nat} {xs : Nat → Int32} {D : va_G} {cA : ClassId} {Q : State → Prop} {Rl : (Nat → Ob) → Ob → Prop} (hm : Sim_year Rl) (hx : p.tables.exec = Jvm.exec) (hb : c.code = cL_law) (hml : c.maxLocals = 4) (hown : s.vm.findClass RL = some m.cls) (hts : ∀ w ∈ wsL_law, w.before #[Value.ref b] s = true) (hX : va_X b L xs s s.heap) (hbl : b < s.heap.size) (hK : KB D cA s) {i : Nat} (hi : i + 6 ≤ L) (hL : L ≤ 3072) {ad : Nat → Nat → Nat} {a0 : Nat → Nat} {X : Nat → Ob} {o : Ob} (hR : Rl X o) {H : Heap} {locs : List Loc} (hP : va_P D vwCl (wX7 cA ad X ++ wX8 cA a0 o) H) (hD : va_D (fun q : Nat => s.heap.size ≤ q) (wX7 cA ad X ++ wX8 cA a0 o)) (hS : va_S (fun q : Nat => s.heap.size ≤ q) s.heap H locs) {ls : Array Slot} (hl : lv_has ls 4 [(0, .ref b), (1, .ref (ad 6 0)), (2, .ref (a0 0)), (3, .int (nI i))]) (K : (∀ (X : Nat → Ob) (o : Ob) (H : Heap) (locs : List Loc), Rl X o → va_P D vwCl (wX7 cA ad X ++ wX8 cA a0 o) H → va_D (fun q : Nat => s.heap.size ≤ q) (wX7 cA ad X ++ wX8 cA a0 o) → va_S (fun q : Nat => s.heap.size ≤ q) s.heap H locs → ∀ ls : Array Slot, lv_has ls 4 [(0, .ref b), (1, .ref (ad 6 0)), (2, .ref (a0 0)), (3, .int (nI i))] → W p l e room_1 s m #[Value.ref b] below meth c H locs 68 1770 Q (F0 m 945 ls []))) : W p l e room_1 s m #[Value.ref b] below meth c H locs 68 1770 Q (F0 m 853 ls []) := by
  have hA : ∀ q : Nat, s.heap.size ≤ q → (fun q : Nat => s.heap.size ≤ q) q := fun _ h => h
  have hbA : ¬ (fun q : Nat => s.heap.size ≤ q) b := Nat.not_le.mpr hbl
  have hin1 : vp_in (nI i + (1 : Int32)) L := by rw [show (1 : Int32) = nI 1 from rfl, nI_add]; exact vp_in_nI (by omega) (by omega)
  have hin2 : vp_in (nI i + (2 : Int32)) L := by rw [show (2 : Int32) = nI 2 from rfl, nI_add]; exact vp_in_nI (by omega) (by omega)
  have hin3 : vp_in (nI i + (3 : Int32)) L := by rw [show (3 : Int32) = nI 3 from rfl, nI_add]; exact vp_in_nI (by omega) (by omega)
  refine lv_aload_n hx hb dL_law_853 rfl (lv_at hl 1 rfl) ?_
  refine lv_aload_n hx hb dL_law_854 rfl (lv_at hl 0 rfl) ?_
  refine lv_iload_n hx hb dL_law_855 rfl (lv_at hl 3 rfl) ?_
  refine lv_iconst (v := (1 : Int32)) hx hb dL_law_856 (by decide) ?_
  refine lv_iadd hx hb dL_law_857 ?_
  refine va_sld hx hb hX hbl hbA hS hin1 dL_law_858 ?_
  refine lv_aload_n hx hb dL_law_859 rfl (lv_at hl 0 rfl) ?_
  refine lv_iload_n hx hb dL_law_860 rfl (lv_at hl 3 rfl) ?_
  refine lv_iconst (v := (2 : Int32)) hx hb dL_law_861 (by decide) ?_
  refine lv_iadd hx hb dL_law_862 ?_
  refine va_sld hx hb hX hbl hbA hS hin2 dL_law_863 ?_
  refine lv_aload_n hx hb dL_law_864 rfl (lv_at hl 0 rfl) ?_
  refine lv_iload_n hx hb dL_law_865 rfl (lv_at hl 3 rfl) ?_
  refine lv_iconst (v := (3 : Int32)) hx hb dL_law_866 (by decide) ?_
  refine lv_iadd hx hb dL_law_867 ?_
  refine va_sld hx hb hX hbl hbA hS hin3 dL_law_868 ?_
  obtain ⟨r, e1, e2, hR⟩ := hm X o hR (xs ((nI i) + (1 : Int32)).toNatClampNeg) (xs ((nI i) + (2 : Int32)).toNatClampNeg) (xs ((nI i) + (3 : Int32)).toNatClampNeg)
  refine pR_V (As := [.int (xs ((nI i) + (1 : Int32)).toNatClampNeg), .int (xs ((nI i) + (2 : Int32)).toNatClampNeg), .int (xs ((nI i) + (3 : Int32)).toNatClampNeg)]) (rest := []) (wr := (wX8 cA a0 o)) ⟨hx, hb, hml, hown, hts⟩ (c_X7_year l D cA ad X (xs ((nI i) + (1 : Int32)).toNatClampNeg) (xs ((nI i) + (2 : Int32)).toNatClampNeg) (xs ((nI i) + (3 : Int32)).toNatClampNeg) r e1) (cwV 3 hts gL_law_X7_year rfl rfl rfl hd_X7_year ⟨(Nat.le_of_ble_eq_true rfl), (Nat.le_of_ble_eq_true rfl)⟩) (recvK hK hP 0 7 rfl rfl) hK hP (List.Perm.refl _) rfl hl.1 rfl (Nat.le_of_ble_eq_true rfl) dL_law_869 ⟨(Nat.le_of_ble_eq_true rfl), (Nat.le_of_ble_eq_true rfl)⟩ ?_
  refine lv_aload_n hx hb dL_law_872 rfl (lv_at hl 2 rfl) ?_
  refine lv_aload_n hx hb dL_law_873 rfl (lv_at hl 0 rfl) ?_
  refine lv_iload_n hx hb dL_law_874 rfl (lv_at hl 3 rfl) ?_
  refine lv_iconst (v := (1 : Int32)) hx hb dL_law_875 (by decide) ?_
  refine lv_iadd hx hb dL_law_876 ?_
  refine va_sld hx hb hX hbl hbA hS hin1 dL_law_877 ?_
  refine lv_aload_n hx hb dL_law_878 rfl (lv_at hl 0 rfl) ?_
  refine lv_iload_n hx hb dL_law_879 rfl (lv_at hl 3 rfl) ?_
  refine lv_iconst (v := (2 : Int32)) hx hb dL_law_880 (by decide) ?_
  refine lv_iadd hx hb dL_law_881 ?_
  refine va_sld hx hb hX hbl hbA hS hin2 dL_law_882 ?_
  refine lv_aload_n hx hb dL_law_883 rfl (lv_at hl 0 rfl) ?_
  refine lv_iload_n hx hb dL_law_884 rfl (lv_at hl 3 rfl) ?_
  refine lv_iconst (v := (3 : Int32)) hx hb dL_law_885 (by decide) ?_
  refine lv_iadd hx hb dL_law_886 ?_
  refine va_sld hx hb hX hbl hbA hS hin3 dL_law_887 ?_
  refine pR_V (As := [.int (xs ((nI i) + (1 : Int32)).toNatClampNeg), .int (xs ((nI i) + (2 : Int32)).toNatClampNeg), .int (xs ((nI i) + (3 : Int32)).toNatClampNeg)]) (rest := [.int r]) (wr := (wX7 cA ad X)) ⟨hx, hb, hml, hown, hts⟩ (c_X8_year l D cA a0 o (xs ((nI i) + (1 : Int32)).toNatClampNeg) (xs ((nI i) + (2 : Int32)).toNatClampNeg) (xs ((nI i) + (3 : Int32)).toNatClampNeg) r e2) (cwV 3 hts gL_law_X8_year rfl rfl rfl hd_X8_year ⟨(Nat.le_of_ble_eq_true rfl), (Nat.le_of_ble_eq_true rfl)⟩) (recvK hK (P_left (wc := (wX8 cA a0 o)) (R := (wX7 cA ad X)) List.perm_append_comm hP) 0 8 rfl rfl) hK hP List.perm_append_comm rfl hl.1 rfl (Nat.le_of_ble_eq_true rfl) dL_law_888 ⟨(Nat.le_of_ble_eq_true rfl), (Nat.le_of_ble_eq_true rfl)⟩ ?_
  refine lv_icmp_eq (tgt := 945) hx hb dL_law_891 (by decide) (fun hc => ?_) (fun hc => absurd rfl hc)
  exact K X o _ _ hR hP hD hS ls hl
set_option maxHeartbeats 4000000 in
set_option maxRecDepth 100000 in
theorem lc_keep {p : Program} {l : Launch} {e : Env} {s : State} {m : MethodId} {below : List Frame} {meth : Method} {c : Code} {b L : Nat} {xs : Nat → Int32} {D : va_G} {cA : ClassId} {Q : State → Prop} {Rl : (Nat → Ob) → Ob → Prop} (hm : Sim_keep Rl) (hx : p.tables.exec = Jvm.exec) (hb : c.code = cL_law) (hml : c.maxLocals = 4) (hown : s.vm.findClass RL = some m.cls) (hts : ∀ w ∈ wsL_law, w.before #[Value.ref b] s = true) (hX : va_X b L xs s s.heap) (hbl : b < s.heap.size) (hK : KB D cA s) {i : Nat} (hi : i + 6 ≤ L) (hL : L ≤ 3072) {ad : Nat → Nat → Nat} {a0 : Nat → Nat} {X : Nat → Ob} {o : Ob} (hR : Rl X o) {H : Heap} {locs : List Loc} (hP : va_P D vwCl (wX7 cA ad X ++ wX8 cA a0 o) H) (hD : va_D (fun q : Nat => s.heap.size ≤ q) (wX7 cA ad X ++ wX8 cA a0 o)) (hS : va_S (fun q : Nat => s.heap.size ≤ q) s.heap H locs) {ls : Array Slot} (hl : lv_has ls 4 [(0, .ref b), (1, .ref (ad 6 0)), (2, .ref (a0 0)), (3, .int (nI i))]) (K : (∀ (X : Nat → Ob) (o : Ob) (H : Heap) (locs : List Loc), Rl X o → va_P D vwCl (wX7 cA ad X ++ wX8 cA a0 o) H → va_D (fun q : Nat => s.heap.size ≤ q) (wX7 cA ad X ++ wX8 cA a0 o) → va_S (fun q : Nat => s.heap.size ≤ q) s.heap H locs → ∀ ls : Array Slot, lv_has ls 4 [(0, .ref b), (1, .ref (ad 6 0)), (2, .ref (a0 0)), (3, .int (nI i))] → W p l e room_1 s m #[Value.ref b] below meth c H locs 68 1770 Q (F0 m 945 ls []))) : W p l e room_1 s m #[Value.ref b] below meth c H locs 68 1770 Q (F0 m 896 ls []) := by
  have hA : ∀ q : Nat, s.heap.size ≤ q → (fun q : Nat => s.heap.size ≤ q) q := fun _ h => h
  have hbA : ¬ (fun q : Nat => s.heap.size ≤ q) b := Nat.not_le.mpr hbl
  refine lv_aload_n hx hb dL_law_896 rfl (lv_at hl 1 rfl) ?_
  obtain ⟨r, X_, o_, e1, e2, hR⟩ := hm X o hR
  refine pW_V (As := []) (rest := []) (wr := (wX8 cA a0 o)) (wn := (wX7 cA ad X_ ++ wX8 cA a0 o)) ⟨hx, hb, hml, hown, hts⟩ (c_X7_keep l D cA ad X r X_ e1) (cwV 0 hts gL_law_X7_keep rfl rfl rfl hd_X7_keep ⟨(Nat.le_of_ble_eq_true rfl), (Nat.le_of_ble_eq_true rfl)⟩) (recvK hK hP 0 7 rfl rfl) hK hP hD hS hA (List.Perm.refl _) (List.Perm.refl _) rfl hl.1 rfl (Nat.le_of_ble_eq_true rfl) dL_law_897 ⟨(Nat.le_of_ble_eq_true rfl), (Nat.le_of_ble_eq_true rfl)⟩ (fun H locs hP hD hS => ?_)
  refine lv_aload_n hx hb dL_law_900 rfl (lv_at hl 2 rfl) ?_
  refine pW_V (As := []) (rest := [.int r]) (wr := (wX7 cA ad X_)) (wn := (wX7 cA ad X_ ++ wX8 cA a0 o_)) ⟨hx, hb, hml, hown, hts⟩ (c_X8_keep l D cA a0 o r o_ e2) (cwV 0 hts gL_law_X8_keep rfl rfl rfl hd_X8_keep ⟨(Nat.le_of_ble_eq_true rfl), (Nat.le_of_ble_eq_true rfl)⟩) (recvK hK (P_left (wc := (wX8 cA a0 o)) (R := (wX7 cA ad X_)) List.perm_append_comm hP) 0 8 rfl rfl) hK hP hD hS hA List.perm_append_comm List.perm_append_comm rfl hl.1 rfl (Nat.le_of_ble_eq_true rfl) dL_law_901 ⟨(Nat.le_of_ble_eq_true rfl), (Nat.le_of_ble_eq_true rfl)⟩ (fun H locs hP hD hS => ?_)
  refine lv_icmp_eq (tgt := 945) hx hb dL_law_904 (by decide) (fun hc => ?_) (fun hc => absurd rfl hc)
  exact K X_ o_ _ _ hR hP hD hS ls hl
set_option maxHeartbeats 4000000 in
set_option maxRecDepth 100000 in
theorem lc_back {p : Program} {l : Launch} {e : Env} {s : State} {m : MethodId} {below : List Frame} {meth : Method} {c : Code} {b L : Nat} {xs : Nat → Int32} {D : va_G} {cA : ClassId} {Q : State → Prop} {Rl : (Nat → Ob) → Ob → Prop} (hm : Sim_back Rl) (hx : p.tables.exec = Jvm.exec) (hb : c.code = cL_law) (hml : c.maxLocals = 4) (hown : s.vm.findClass RL = some m.cls) (hts : ∀ w ∈ wsL_law, w.before #[Value.ref b] s = true) (hX : va_X b L xs s s.heap) (hbl : b < s.heap.size) (hK : KB D cA s) {i : Nat} (hi : i + 6 ≤ L) (hL : L ≤ 3072) {ad : Nat → Nat → Nat} {a0 : Nat → Nat} {X : Nat → Ob} {o : Ob} (hR : Rl X o) {H : Heap} {locs : List Loc} (hP : va_P D vwCl (wX7 cA ad X ++ wX8 cA a0 o) H) (hD : va_D (fun q : Nat => s.heap.size ≤ q) (wX7 cA ad X ++ wX8 cA a0 o)) (hS : va_S (fun q : Nat => s.heap.size ≤ q) s.heap H locs) {ls : Array Slot} (hl : lv_has ls 4 [(0, .ref b), (1, .ref (ad 6 0)), (2, .ref (a0 0)), (3, .int (nI i))]) (K : (∀ (X : Nat → Ob) (o : Ob) (H : Heap) (locs : List Loc), Rl X o → va_P D vwCl (wX7 cA ad X ++ wX8 cA a0 o) H → va_D (fun q : Nat => s.heap.size ≤ q) (wX7 cA ad X ++ wX8 cA a0 o) → va_S (fun q : Nat => s.heap.size ≤ q) s.heap H locs → ∀ ls : Array Slot, lv_has ls 4 [(0, .ref b), (1, .ref (ad 6 0)), (2, .ref (a0 0)), (3, .int (nI i))] → W p l e room_1 s m #[Value.ref b] below meth c H locs 68 1770 Q (F0 m 945 ls []))) : W p l e room_1 s m #[Value.ref b] below meth c H locs 68 1770 Q (F0 m 909 ls []) := by
  have hA : ∀ q : Nat, s.heap.size ≤ q → (fun q : Nat => s.heap.size ≤ q) q := fun _ h => h
  have hbA : ¬ (fun q : Nat => s.heap.size ≤ q) b := Nat.not_le.mpr hbl
  refine lv_aload_n hx hb dL_law_909 rfl (lv_at hl 1 rfl) ?_
  obtain ⟨r, X_, o_, e1, e2, hR⟩ := hm X o hR
  refine pW_V (As := []) (rest := []) (wr := (wX8 cA a0 o)) (wn := (wX7 cA ad X_ ++ wX8 cA a0 o)) ⟨hx, hb, hml, hown, hts⟩ (c_X7_back l D cA ad X r X_ e1) (cwV 0 hts gL_law_X7_back rfl rfl rfl hd_X7_back ⟨(Nat.le_of_ble_eq_true rfl), (Nat.le_of_ble_eq_true rfl)⟩) (recvK hK hP 0 7 rfl rfl) hK hP hD hS hA (List.Perm.refl _) (List.Perm.refl _) rfl hl.1 rfl (Nat.le_of_ble_eq_true rfl) dL_law_910 ⟨(Nat.le_of_ble_eq_true rfl), (Nat.le_of_ble_eq_true rfl)⟩ (fun H locs hP hD hS => ?_)
  refine lv_aload_n hx hb dL_law_913 rfl (lv_at hl 2 rfl) ?_
  refine pW_V (As := []) (rest := [.int r]) (wr := (wX7 cA ad X_)) (wn := (wX7 cA ad X_ ++ wX8 cA a0 o_)) ⟨hx, hb, hml, hown, hts⟩ (c_X8_back l D cA a0 o r o_ e2) (cwV 0 hts gL_law_X8_back rfl rfl rfl hd_X8_back ⟨(Nat.le_of_ble_eq_true rfl), (Nat.le_of_ble_eq_true rfl)⟩) (recvK hK (P_left (wc := (wX8 cA a0 o)) (R := (wX7 cA ad X_)) List.perm_append_comm hP) 0 8 rfl rfl) hK hP hD hS hA List.perm_append_comm List.perm_append_comm rfl hl.1 rfl (Nat.le_of_ble_eq_true rfl) dL_law_914 ⟨(Nat.le_of_ble_eq_true rfl), (Nat.le_of_ble_eq_true rfl)⟩ (fun H locs hP hD hS => ?_)
  refine lv_icmp_eq (tgt := 945) hx hb dL_law_917 (by decide) (fun hc => ?_) (fun hc => absurd rfl hc)
  exact K X_ o_ _ _ hR hP hD hS ls hl
set_option maxHeartbeats 4000000 in
set_option maxRecDepth 100000 in
theorem lc_count {p : Program} {l : Launch} {e : Env} {s : State} {m : MethodId} {below : List Frame} {meth : Method} {c : Code} {b L : Nat} {xs : Nat → Int32} {D : va_G} {cA : ClassId} {Q : State → Prop} {Rl : (Nat → Ob) → Ob → Prop} (hm : Sim_count Rl) (hx : p.tables.exec = Jvm.exec) (hb : c.code = cL_law) (hml : c.maxLocals = 4) (hown : s.vm.findClass RL = some m.cls) (hts : ∀ w ∈ wsL_law, w.before #[Value.ref b] s = true) (hX : va_X b L xs s s.heap) (hbl : b < s.heap.size) (hK : KB D cA s) {i : Nat} (hi : i + 6 ≤ L) (hL : L ≤ 3072) {ad : Nat → Nat → Nat} {a0 : Nat → Nat} {X : Nat → Ob} {o : Ob} (hR : Rl X o) {H : Heap} {locs : List Loc} (hP : va_P D vwCl (wX7 cA ad X ++ wX8 cA a0 o) H) (hD : va_D (fun q : Nat => s.heap.size ≤ q) (wX7 cA ad X ++ wX8 cA a0 o)) (hS : va_S (fun q : Nat => s.heap.size ≤ q) s.heap H locs) {ls : Array Slot} (hl : lv_has ls 4 [(0, .ref b), (1, .ref (ad 6 0)), (2, .ref (a0 0)), (3, .int (nI i))]) (K : (∀ (X : Nat → Ob) (o : Ob) (H : Heap) (locs : List Loc), Rl X o → va_P D vwCl (wX7 cA ad X ++ wX8 cA a0 o) H → va_D (fun q : Nat => s.heap.size ≤ q) (wX7 cA ad X ++ wX8 cA a0 o) → va_S (fun q : Nat => s.heap.size ≤ q) s.heap H locs → ∀ ls : Array Slot, lv_has ls 4 [(0, .ref b), (1, .ref (ad 6 0)), (2, .ref (a0 0)), (3, .int (nI i))] → W p l e room_1 s m #[Value.ref b] below meth c H locs 68 1770 Q (F0 m 945 ls []))) : W p l e room_1 s m #[Value.ref b] below meth c H locs 68 1770 Q (F0 m 922 ls []) := by
  have hA : ∀ q : Nat, s.heap.size ≤ q → (fun q : Nat => s.heap.size ≤ q) q := fun _ h => h
  have hbA : ¬ (fun q : Nat => s.heap.size ≤ q) b := Nat.not_le.mpr hbl
  have hin1 : vp_in (nI i + (1 : Int32)) L := by rw [show (1 : Int32) = nI 1 from rfl, nI_add]; exact vp_in_nI (by omega) (by omega)
  refine lv_aload_n hx hb dL_law_922 rfl (lv_at hl 1 rfl) ?_
  refine lv_aload_n hx hb dL_law_923 rfl (lv_at hl 0 rfl) ?_
  refine lv_iload_n hx hb dL_law_924 rfl (lv_at hl 3 rfl) ?_
  refine lv_iconst (v := (1 : Int32)) hx hb dL_law_925 (by decide) ?_
  refine lv_iadd hx hb dL_law_926 ?_
  refine va_sld hx hb hX hbl hbA hS hin1 dL_law_927 ?_
  obtain ⟨r, e1, e2, hR⟩ := hm X o hR (xs ((nI i) + (1 : Int32)).toNatClampNeg)
  refine pR_V (As := [.int (xs ((nI i) + (1 : Int32)).toNatClampNeg)]) (rest := []) (wr := (wX8 cA a0 o)) ⟨hx, hb, hml, hown, hts⟩ (c_X7_count l D cA ad X (xs ((nI i) + (1 : Int32)).toNatClampNeg) r e1) (cwV 1 hts gL_law_X7_count rfl rfl rfl hd_X7_count ⟨(Nat.le_of_ble_eq_true rfl), (Nat.le_of_ble_eq_true rfl)⟩) (recvK hK hP 0 7 rfl rfl) hK hP (List.Perm.refl _) rfl hl.1 rfl (Nat.le_of_ble_eq_true rfl) dL_law_928 ⟨(Nat.le_of_ble_eq_true rfl), (Nat.le_of_ble_eq_true rfl)⟩ ?_
  refine lv_aload_n hx hb dL_law_931 rfl (lv_at hl 2 rfl) ?_
  refine lv_aload_n hx hb dL_law_932 rfl (lv_at hl 0 rfl) ?_
  refine lv_iload_n hx hb dL_law_933 rfl (lv_at hl 3 rfl) ?_
  refine lv_iconst (v := (1 : Int32)) hx hb dL_law_934 (by decide) ?_
  refine lv_iadd hx hb dL_law_935 ?_
  refine va_sld hx hb hX hbl hbA hS hin1 dL_law_936 ?_
  refine pR_V (As := [.int (xs ((nI i) + (1 : Int32)).toNatClampNeg)]) (rest := [.int r]) (wr := (wX7 cA ad X)) ⟨hx, hb, hml, hown, hts⟩ (c_X8_count l D cA a0 o (xs ((nI i) + (1 : Int32)).toNatClampNeg) r e2) (cwV 1 hts gL_law_X8_count rfl rfl rfl hd_X8_count ⟨(Nat.le_of_ble_eq_true rfl), (Nat.le_of_ble_eq_true rfl)⟩) (recvK hK (P_left (wc := (wX8 cA a0 o)) (R := (wX7 cA ad X)) List.perm_append_comm hP) 0 8 rfl rfl) hK hP List.perm_append_comm rfl hl.1 rfl (Nat.le_of_ble_eq_true rfl) dL_law_937 ⟨(Nat.le_of_ble_eq_true rfl), (Nat.le_of_ble_eq_true rfl)⟩ ?_
  refine lv_icmp_eq (tgt := 945) hx hb dL_law_940 (by decide) (fun hc => ?_) (fun hc => absurd rfl hc)
  exact K X o _ _ hR hP hD hS ls hl
theorem lw_len {i L : Nat} (hL : L ≤ 3072) (hi : i ≤ L) (h : ¬ (nI L - (6 : Int32) < nI i)) : i + 6 ≤ L := by
  have h1 := pk_sub_toInt (a := L) (b := 6) (by omega) (by omega)
  have h2 := nI_toInt (n := i) (by omega)
  rw [show (6 : Int32) = nI 6 from rfl] at h
  have h3 : ¬ ((nI L - nI 6).toInt < (nI i).toInt) := fun q => h (Int32.lt_iff_toInt_lt.mpr q)
  rw [h1, h2] at h3
  omega
set_option maxHeartbeats 4000000 in
set_option maxRecDepth 100000 in
theorem law_loop {p : Program} {l : Launch} {e : Env} {s : State} {m : MethodId} {below : List Frame} {meth : Method} {c : Code} {b L : Nat} {xs : Nat → Int32} {D : va_G} {cA : ClassId} {Rl : (Nat → Ob) → Ob → Prop} (hsim : Sim Rl) (hr : meth.sig.returnType = ret) (hlocks : meth.locks = false) (hx : p.tables.exec = Jvm.exec) (hb : c.code = cL_law) (hml : c.maxLocals = 4) (hown : s.vm.findClass RL = some m.cls) (hts : ∀ w ∈ wsL_law, w.before #[Value.ref b] s = true) (hX : va_X b L xs s s.heap) (hbl : b < s.heap.size) (hK : KB D cA s) (hL : L ≤ 3072) :
    ∀ (n i : Nat), i ≤ L → L + 1 ≤ i + n → ∀ (ad : Nat → Nat → Nat) (a0 : Nat → Nat) (X : Nat → Ob) (o : Ob), Rl X o → ∀ (H : Heap) (locs : List Loc), va_P D vwCl (wX7 cA ad X ++ wX8 cA a0 o) H → va_D (fun q : Nat => s.heap.size ≤ q) (wX7 cA ad X ++ wX8 cA a0 o) → va_S (fun q : Nat => s.heap.size ≤ q) s.heap H locs → ∀ ls : Array Slot, lv_has ls 4 [(0, .ref b), (1, .ref (ad 6 0)), (2, .ref (a0 0)), (3, .int (nI i))] → W p l e room_1 s m #[Value.ref b] below meth c H locs 68 1770 (lw_Z below #[Value.ref b] s) (F0 m 18 ls []) := by
  obtain ⟨hm0, hm1, hm2, hm3, hm4, hm5, hm6, hm7, hm8, hm9, hm10, hm11, hm12, hm13, hm14, hm15, hm16, hm17, hm18, hm19, hm20, hm21, hm22, hm23, hm24, hm25, hm26, hm27, hm28, hm29, hm30⟩ := hsim
  have hA : ∀ q : Nat, s.heap.size ≤ q → (fun q : Nat => s.heap.size ≤ q) q := fun _ h => h
  have hbA : ¬ (fun q : Nat => s.heap.size ≤ q) b := Nat.not_le.mpr hbl
  intro n
  induction n with
  | zero => intro i h1 h2; exact absurd h2 (by omega)
  | succ n ih =>
    intro i hiL hin ad a0 X o hR H locs hP hD hS ls hl
    refine lv_iload_n hx hb dL_law_18 rfl (lv_at hl 3 rfl) ?_
    refine lv_aload_n hx hb dL_law_19 rfl (lv_at hl 0 rfl) ?_
    refine va_slen hx hb hX hbl hbA hS dL_law_20 ?_
    refine lv_bipush (v := (6 : Int32)) hx hb dL_law_21 (by decide) ?_
    refine lv_isub hx hb dL_law_23 ?_
    refine lv_icmp_gt (tgt := 951) hx hb dL_law_24 (by decide) (fun hc => ?_) (fun hc => ?_)
    · refine lv_iconst (v := (1 : Int32)) hx hb dL_law_951 (by decide) ?_
      refine va_forget (fun q hq => hS.2.2 q hq) ?_
      exact lw_ret hx hb hr hlocks dL_law_952
    · have hi := lw_len hL hiL hc
      have K : ∀ (X : Nat → Ob) (o : Ob) (H : Heap) (locs : List Loc), Rl X o → va_P D vwCl (wX7 cA ad X ++ wX8 cA a0 o) H → va_D (fun q : Nat => s.heap.size ≤ q) (wX7 cA ad X ++ wX8 cA a0 o) → va_S (fun q : Nat => s.heap.size ≤ q) s.heap H locs → ∀ ls : Array Slot, lv_has ls 4 [(0, .ref b), (1, .ref (ad 6 0)), (2, .ref (a0 0)), (3, .int (nI i))] → W p l e room_1 s m #[Value.ref b] below meth c H locs 68 1770 (lw_Z below #[Value.ref b] s) (F0 m 945 ls []) := by
        intro X o H locs hR hP hD hS ls hl
        refine lv_iinc (v := nI (i + 6)) (lv' := [(3, .int (nI (i + 6))), (0, .ref b), (1, .ref (ad 6 0)), (2, .ref (a0 0))]) hx hb dL_law_945 hl (k := 3) rfl (by rw [show Int32.ofInt 6 = nI 6 from rfl, nI_add]) (by decide) rfl (fun ls hl => ?_)
        refine lv_goto (tgt := 18) hx hb dL_law_948 (by decide) ?_
        exact ih (i + 6) hi (by omega) ad a0 X o hR H locs hP hD hS ls (lv_sub hl [1, 2, 3, 0] rfl)
      refine lv_aload_n hx hb dL_law_27 rfl (lv_at hl 0 rfl) ?_
      refine lv_iload_n hx hb dL_law_28 rfl (lv_at hl 3 rfl) ?_
      refine va_sld hx hb hX hbl hbA hS (vp_in_nI (by omega) (by omega)) dL_law_29 ?_
      refine lv_bipush (v := (31 : Int32)) hx hb dL_law_30 (by decide) ?_
      refine lv_iand hx hb dL_law_32 ?_
      refine lv_topi (fun k ek => ?_)
      rcases Int.lt_or_le k.toInt 0 with h1 | h1
      · refine lv_tableOut (tgt := 945) hx hb dL_law_33 (Or.inl h1) (by decide) ?_
        exact K X o H locs hR hP hD hS ls hl
      rcases Int.lt_or_le 30 k.toInt with h2 | h2
      · refine lv_tableOut (tgt := 945) hx hb dL_law_33 (Or.inr h2) (by decide) ?_
        exact K X o H locs hR hP hD hS ls hl
      have hk : k = Int32.ofInt k.toInt := (Int32.ofInt_toInt k).symm
      have hcs : k.toInt = 0 ∨ k.toInt = 1 ∨ k.toInt = 2 ∨ k.toInt = 3 ∨ k.toInt = 4 ∨ k.toInt = 5 ∨ k.toInt = 6 ∨ k.toInt = 7 ∨ k.toInt = 8 ∨ k.toInt = 9 ∨ k.toInt = 10 ∨ k.toInt = 11 ∨ k.toInt = 12 ∨ k.toInt = 13 ∨ k.toInt = 14 ∨ k.toInt = 15 ∨ k.toInt = 16 ∨ k.toInt = 17 ∨ k.toInt = 18 ∨ k.toInt = 19 ∨ k.toInt = 20 ∨ k.toInt = 21 ∨ k.toInt = 22 ∨ k.toInt = 23 ∨ k.toInt = 24 ∨ k.toInt = 25 ∨ k.toInt = 26 ∨ k.toInt = 27 ∨ k.toInt = 28 ∨ k.toInt = 29 ∨ k.toInt = 30 := by omega
      rcases hcs with hv | hv | hv | hv | hv | hv | hv | hv | hv | hv | hv | hv | hv | hv | hv | hv | hv | hv | hv | hv | hv | hv | hv | hv | hv | hv | hv | hv | hv | hv | hv
      · rw [hv] at hk
        subst hk
        refine lv_tableIn (off := 139) (tgt := 172) hx hb dL_law_33 (by decide) (by decide) (by decide) (by decide) ?_
        exact lc_write hm0 hx hb hml hown hts hX hbl hK hi hL hR hP hD hS hl K
      · rw [hv] at hk
        subst hk
        refine lv_tableIn (off := 202) (tgt := 235) hx hb dL_law_33 (by decide) (by decide) (by decide) (by decide) ?_
        exact lc_wipe hm1 hx hb hml hown hts hX hbl hK hi hL hR hP hD hS hl K
      · rw [hv] at hk
        subst hk
        refine lv_tableIn (off := 215) (tgt := 248) hx hb dL_law_33 (by decide) (by decide) (by decide) (by decide) ?_
        exact lc_fault hm2 hx hb hml hown hts hX hbl hK hi hL hR hP hD hS hl K
      · rw [hv] at hk
        subst hk
        refine lv_tableIn (off := 228) (tgt := 261) hx hb dL_law_33 (by decide) (by decide) (by decide) (by decide) ?_
        exact lc_lay hm3 hx hb hml hown hts hX hbl hK hi hL hR hP hD hS hl K
      · rw [hv] at hk
        subst hk
        refine lv_tableIn (off := 241) (tgt := 274) hx hb dL_law_33 (by decide) (by decide) (by decide) (by decide) ?_
        exact lc_knot hm4 hx hb hml hown hts hX hbl hK hi hL hR hP hD hS hl K
      · rw [hv] at hk
        subst hk
        refine lv_tableIn (off := 274) (tgt := 307) hx hb dL_law_33 (by decide) (by decide) (by decide) (by decide) ?_
        exact lc_person hm5 hx hb hml hown hts hX hbl hK hi hL hR hP hD hS hl K
      · rw [hv] at hk
        subst hk
        refine lv_tableIn (off := 307) (tgt := 340) hx hb dL_law_33 (by decide) (by decide) (by decide) (by decide) ?_
        exact lc_may hm6 hx hb hml hown hts hX hbl hK hi hL hR hP hD hS hl K
      · rw [hv] at hk
        subst hk
        refine lv_tableIn (off := 330) (tgt := 363) hx hb dL_law_33 (by decide) (by decide) (by decide) (by decide) ?_
        exact lc_undo hm7 hx hb hml hown hts hX hbl hK hi hL hR hP hD hS hl K
      · rw [hv] at hk
        subst hk
        refine lv_tableIn (off := 353) (tgt := 386) hx hb dL_law_33 (by decide) (by decide) (by decide) (by decide) ?_
        exact lc_tie hm8 hx hb hml hown hts hX hbl hK hi hL hR hP hD hS hl K
      · rw [hv] at hk
        subst hk
        refine lv_tableIn (off := 416) (tgt := 449) hx hb dL_law_33 (by decide) (by decide) (by decide) (by decide) ?_
        exact lc_pull hm9 hx hb hml hown hts hX hbl hK hi hL hR hP hD hS hl K
      · rw [hv] at hk
        subst hk
        refine lv_tableIn (off := 439) (tgt := 472) hx hb dL_law_33 (by decide) (by decide) (by decide) (by decide) ?_
        exact lc_cut hm10 hx hb hml hown hts hX hbl hK hi hL hR hP hD hS hl K
      · rw [hv] at hk
        subst hk
        refine lv_tableIn (off := 462) (tgt := 495) hx hb dL_law_33 (by decide) (by decide) (by decide) (by decide) ?_
        exact lc_days hm11 hx hb hml hown hts hX hbl hK hi hL hR hP hD hS hl K
      · rw [hv] at hk
        subst hk
        refine lv_tableIn (off := 485) (tgt := 518) hx hb dL_law_33 (by decide) (by decide) (by decide) (by decide) ?_
        exact lc_takeBack hm12 hx hb hml hown hts hX hbl hK hi hL hR hP hD hS hl K
      · rw [hv] at hk
        subst hk
        refine lv_tableIn (off := 498) (tgt := 531) hx hb dL_law_33 (by decide) (by decide) (by decide) (by decide) ?_
        exact lc_loosen hm13 hx hb hml hown hts hX hbl hK hi hL hR hP hD hS hl K
      · rw [hv] at hk
        subst hk
        refine lv_tableIn (off := 521) (tgt := 554) hx hb dL_law_33 (by decide) (by decide) (by decide) (by decide) ?_
        exact lc_pay hm14 hx hb hml hown hts hX hbl hK hi hL hR hP hD hS hl K
      · rw [hv] at hk
        subst hk
        refine lv_tableIn (off := 544) (tgt := 577) hx hb dL_law_33 (by decide) (by decide) (by decide) (by decide) ?_
        exact lc_forEver hm15 hx hb hml hown hts hX hbl hK hi hL hR hP hD hS hl K
      · rw [hv] at hk
        subst hk
        refine lv_tableIn (off := 557) (tgt := 590) hx hb dL_law_33 (by decide) (by decide) (by decide) (by decide) ?_
        exact lc_frees hm16 hx hb hml hown hts hX hbl hK hi hL hR hP hD hS hl K
      · rw [hv] at hk
        subst hk
        refine lv_tableIn (off := 580) (tgt := 613) hx hb dL_law_33 (by decide) (by decide) (by decide) (by decide) ?_
        exact lc_fresh hm17 hx hb hml hown hts hX hbl hK hi hL hR hP hD hS hl K
      · rw [hv] at hk
        subst hk
        refine lv_tableIn (off := 623) (tgt := 656) hx hb dL_law_33 (by decide) (by decide) (by decide) (by decide) ?_
        exact lc_orders hm18 hx hb hml hown hts hX hbl hK hi hL hR hP hD hS hl K
      · rw [hv] at hk
        subst hk
        refine lv_tableIn (off := 636) (tgt := 669) hx hb dL_law_33 (by decide) (by decide) (by decide) (by decide) ?_
        exact lc_tell hm19 hx hb hml hown hts hX hbl hK hi hL hR hP hD hS hl K
      · rw [hv] at hk
        subst hk
        refine lv_tableIn (off := 659) (tgt := 692) hx hb dL_law_33 (by decide) (by decide) (by decide) (by decide) ?_
        exact lc_noRow hm20 hx hb hml hown hts hX hbl hK hi hL hR hP hD hS hl K
      · rw [hv] at hk
        subst hk
        refine lv_tableIn (off := 672) (tgt := 705) hx hb dL_law_33 (by decide) (by decide) (by decide) (by decide) ?_
        exact lc_judge hm21 hx hb hml hown hts hX hbl hK hi hL hR hP hD hS hl K
      · rw [hv] at hk
        subst hk
        refine lv_tableIn (off := 685) (tgt := 718) hx hb dL_law_33 (by decide) (by decide) (by decide) (by decide) ?_
        exact lc_cross hm22 hx hb hml hown hts hX hbl hK hi hL hR hP hD hS hl K
      · rw [hv] at hk
        subst hk
        refine lv_tableIn (off := 718) (tgt := 751) hx hb dL_law_33 (by decide) (by decide) (by decide) (by decide) ?_
        exact lc_smooth hm23 hx hb hml hown hts hX hbl hK hi hL hR hP hD hS hl K
      · rw [hv] at hk
        subst hk
        refine lv_tableIn (off := 741) (tgt := 774) hx hb dL_law_33 (by decide) (by decide) (by decide) (by decide) ?_
        exact lc_loose hm24 hx hb hml hown hts hX hbl hK hi hL hR hP hD hS hl K
      · rw [hv] at hk
        subst hk
        refine lv_tableIn (off := 774) (tgt := 807) hx hb dL_law_33 (by decide) (by decide) (by decide) (by decide) ?_
        exact lc_alike hm25 hx hb hml hown hts hX hbl hK hi hL hR hP hD hS hl K
      · rw [hv] at hk
        subst hk
        refine lv_tableIn (off := 787) (tgt := 820) hx hb dL_law_33 (by decide) (by decide) (by decide) (by decide) ?_
        exact lc_mark hm26 hx hb hml hown hts hX hbl hK hi hL hR hP hD hS hl K
      · rw [hv] at hk
        subst hk
        refine lv_tableIn (off := 820) (tgt := 853) hx hb dL_law_33 (by decide) (by decide) (by decide) (by decide) ?_
        exact lc_year hm27 hx hb hml hown hts hX hbl hK hi hL hR hP hD hS hl K
      · rw [hv] at hk
        subst hk
        refine lv_tableIn (off := 863) (tgt := 896) hx hb dL_law_33 (by decide) (by decide) (by decide) (by decide) ?_
        exact lc_keep hm28 hx hb hml hown hts hX hbl hK hi hL hR hP hD hS hl K
      · rw [hv] at hk
        subst hk
        refine lv_tableIn (off := 876) (tgt := 909) hx hb dL_law_33 (by decide) (by decide) (by decide) (by decide) ?_
        exact lc_back hm29 hx hb hml hown hts hX hbl hK hi hL hR hP hD hS hl K
      · rw [hv] at hk
        subst hk
        refine lv_tableIn (off := 889) (tgt := 922) hx hb dL_law_33 (by decide) (by decide) (by decide) (by decide) ?_
        exact lc_count hm30 hx hb hml hown hts hX hbl hK hi hL hR hP hD hS hl K
theorem nest_tab : ∀ w ∈ nestW, w.onTables = true := by
  intro w hw
  unfold nestW at hw
  simp only [List.mem_cons, List.not_mem_nil, or_false] at hw
  rcases hw with rfl | rfl | rfl | rfl | rfl | rfl | rfl | rfl | rfl | rfl | rfl | rfl | rfl | rfl | rfl | rfl | rfl | rfl | rfl | rfl | rfl | rfl | rfl | rfl | rfl | rfl | rfl | rfl | rfl | rfl | rfl | rfl | rfl | rfl | rfl | rfl <;> rfl
set_option maxHeartbeats 4000000 in
set_option maxRecDepth 100000 in
/-- the law from its entry, the class and the reference being alike -/
theorem start_of_sim {Rl : (Nat → Ob) → Ob → Prop} (hsim : Sim Rl) {X0 : Nat → Ob} {o0 : Ob} (hX0 : f_X7_init = some X0) (ho0 : f_X8_init = some o0) (hR0 : Rl X0 o0) {p : Program} {e : Env} {s : State} {m : MethodId} {below : List Frame} {meth : Method} {c : Code} (l : Launch) {b L : Nat} {xs : Nat → Int32} (hL : L ≤ 3072) (C0 : lw_At p s m meth c b L xs) : W p l e room_1 s m #[Value.ref b] below meth c s.heap [] 0 0 (lw_Z below #[Value.ref b] s) (entryFrame m ([Value.ref b] : List Value).toArray 4) := by
  obtain ⟨hx, hb, hr, hml, hown, hts0, hX, hbl, hlocks, hgv⟩ := id C0
  have hts : ∀ w ∈ wsL_law, w.before #[Value.ref b] s = true := fun w h => hts0 w (wsL_law_in w h)
  have hA : ∀ q : Nat, s.heap.size ≤ q → (fun q : Nat => s.heap.size ≤ q) q := fun _ h => h
  have hbA : ¬ (fun q : Nat => s.heap.size ≤ q) b := Nat.not_le.mpr hbl
  obtain ⟨c0, iS0, hKn0⟩ := u_known (C := RX0) (T := TX0) (N := 2) (n := 2) hts0 inX0 (hts (.instantiable RX0 2) (List.mem_of_getElem? (i := 34) rfl))
  obtain ⟨c1, iS1, hKn1⟩ := u_known (C := RX1) (T := TX1) (N := 4) (n := 4) hts0 inX1 (hts (.instantiable RX1 4) (List.mem_of_getElem? (i := 30) rfl))
  obtain ⟨c2, iS2, hKn2⟩ := u_known (C := RX2) (T := TX2) (N := 1) (n := 1) hts0 inX2 (hts (.instantiable RX2 1) (List.mem_of_getElem? (i := 18) rfl))
  obtain ⟨c3, iS3, hKn3⟩ := u_known (C := RX3) (T := TX3) (N := 3) (n := 3) hts0 inX3 (hts (.instantiable RX3 3) (List.mem_of_getElem? (i := 42) rfl))
  obtain ⟨c4, iS4, hKn4⟩ := u_known (C := RX4) (T := TX4) (N := 2) (n := 2) hts0 inX4 (hts (.instantiable RX4 2) (List.mem_of_getElem? (i := 38) rfl))
  obtain ⟨c5, iS5, hKn5⟩ := u_known (C := RX5) (T := TX5) (N := 2) (n := 2) hts0 inX5 (hts (.instantiable RX5 2) (List.mem_of_getElem? (i := 14) rfl))
  obtain ⟨c6, iS6, hKn6⟩ := u_known (C := RX6) (T := TX6) (N := 12) (n := 12) hts0 inX6 (hts (.instantiable RX6 12) (List.mem_of_getElem? (i := 22) rfl))
  obtain ⟨c7, iS7, hKn7⟩ := u_known (C := RX7) (T := TX7) (N := 12) (n := 12) hts0 inX7 (hts (.instantiable RX7 12) (List.mem_of_getElem? (i := 1) rfl))
  obtain ⟨c8, iS8, hKn8⟩ := u_known (C := RX8) (T := TX8) (N := 27) (n := 27) hts0 inX8 (hts (.instantiable RX8 27) (List.mem_of_getElem? (i := 4) rfl))
  obtain ⟨dC, dI, hKc⟩ : ∃ (dC : Nat → ClassId) (dI : Nat → Nat → Nat), ∀ (k : Nat) (q : vw_C), vwCl[k]? = some q → u_Kn s q.1 q.2.1 q.2.2 (dC k) (dI k) := by
    refine ⟨fun k => if k = 0 then c0 else if k = 1 then c1 else if k = 2 then c2 else if k = 3 then c3 else if k = 4 then c4 else if k = 5 then c5 else if k = 6 then c6 else if k = 7 then c7 else c8, fun k => if k = 0 then iS0 else if k = 1 then iS1 else if k = 2 then iS2 else if k = 3 then iS3 else if k = 4 then iS4 else if k = 5 then iS5 else if k = 6 then iS6 else if k = 7 then iS7 else iS8, ?_⟩
    intro k q hq
    match k, hq with
    | 0, hq => cases hq; exact hKn0
    | 1, hq => cases hq; exact hKn1
    | 2, hq => cases hq; exact hKn2
    | 3, hq => cases hq; exact hKn3
    | 4, hq => cases hq; exact hKn4
    | 5, hq => cases hq; exact hKn5
    | 6, hq => cases hq; exact hKn6
    | 7, hq => cases hq; exact hKn7
    | 8, hq => cases hq; exact hKn8
    | k + 9, hq => simp [vwCl] at hq
  obtain ⟨cA, kA, comp, hA1, hA2, hA3⟩ := Cond.arrayClass_spec (type := .int) (hts (.arrayClass .int) (List.mem_of_getElem? (i := 49) rfl))
  have hK : KB (dC, dI) cA s := by
    refine ⟨⟨hKc, fun k q hq => ?_⟩, fun w hw => va_Nw.of (nest_tab w hw) (hts0 w (nest_in w hw))⟩
    match k, hq with
    | 0, hq => cases hq; exact ⟨fun n z => ⟨fun k h => (by cases h), kA, hA2, comp, hA3⟩, hA1⟩
    | k + 1, hq => simp at hq
  generalize hDD : (dC, dI) = D at hK
  have hS : va_S (fun q : Nat => s.heap.size ≤ q) s.heap s.heap [] := va_S.rf
  have hP : va_P D vwCl [] s.heap := fun k q h => by simp at h
  have hD : va_D (fun q : Nat => s.heap.size ≤ q) [] := ⟨fun i j p q h => by simp at h, fun k q h => by simp at h⟩
  have hl := lv_entry ([.ref b]) (n := 4) (Nat.le_of_ble_eq_true rfl)
  rw [lg_entry_eq]
  generalize (lg_sl ([.ref b]) ++ List.replicate (4 - (lg_sl ([.ref b])).length) Slot.unset).toArray = ls at hl ⊢
  have hl : lv_has ls 4 [(0, .ref b)] := hl
  refine va_new (ci := 7) (fs := [.null, .null, .null, .null, .null, .null, .int 0, .null, .null, .null, .null, .null]) (C := RX7) (T := TX7) (N := 12) hx hb hts inlX7 tyX7 tyX7_ok hown (hts (.classLink RL 7 RX7) (List.mem_of_getElem? (i := 0) rfl)) (hts (.instantiable RX7 12) (List.mem_of_getElem? (i := 1) rfl)) (hts (.initialized RX7) (List.mem_of_getElem? (i := 2) rfl)) hK.1 hP hD hS hA rfl (fun j hj => by rcases (show j = 0 ∨ j = 1 ∨ j = 2 ∨ j = 3 ∨ j = 4 ∨ j = 5 ∨ j = 6 ∨ j = 7 ∨ j = 8 ∨ j = 9 ∨ j = 10 ∨ j = 11 by omega) with rfl | rfl | rfl | rfl | rfl | rfl | rfl | rfl | rfl | rfl | rfl | rfl <;> rfl) (Nat.le_of_ble_eq_true rfl) (Nat.le_of_ble_eq_true rfl) dL_law_0 (fun h0 H hP hD hS => ?_)
  have hP : va_P D vwCl [(h0, .inr (7, [.null, .null, .null, .null, .null, .null, .int 0, .null, .null, .null, .null, .null]))] H := hP
  have hD : va_D (fun q : Nat => s.heap.size ≤ q) [(h0, .inr (7, [.null, .null, .null, .null, .null, .null, .int 0, .null, .null, .null, .null, .null]))] := hD
  refine lv_dup hx hb dL_law_3 rfl ?_
  refine cN_I (As := []) (rest := [.ref h0]) (wr := []) ⟨hx, hb, hml, hown, hts⟩ (c_X7_init l D cA h0 X0 hX0) (cwI 0 hts gL_law_X7_init rfl rfl rfl (hts (.initialized RX7) (List.mem_of_getElem? (i := 2) rfl)) (hts (.methodLink RL 9 yX7_init) (List.mem_of_getElem? (i := 7) rfl)) (hts (.instanceMethod yX7_init) (List.mem_of_getElem? (i := 8) rfl)) rfl hd_X7_init.2 ⟨(Nat.le_of_ble_eq_true rfl), (Nat.le_of_ble_eq_true rfl)⟩) hK hP hD hS hA rfl hl.1 rfl (Nat.le_of_ble_eq_true rfl) dL_law_4 ⟨(Nat.le_of_ble_eq_true rfl), (Nat.le_of_ble_eq_true rfl)⟩ (fun ad H locs ha hP2 hD2 hS => ?_)
  subst ha
  have hP := hP2
  have hD := hD2
  have hP : va_P D vwCl (wX7 cA ad X0) H := hP
  have hD : va_D (fun q : Nat => s.heap.size ≤ q) (wX7 cA ad X0) := hD
  refine lv_astore_n (lv' := [(1, .ref (ad 6 0)), (0, .ref b)]) hx hb dL_law_7 rfl hl (by decide) rfl (fun ls hl => ?_)
  refine va_new (ci := 8) (fs := [.int 0, .null, .null, .null, .null, .null, .null, .null, .null, .null, .null, .null, .null, .int 0, .int 0, .null, .int 0, .null, .null, .null, .int 0, .null, .null, .null, .null, .null, .null]) (C := RX8) (T := TX8) (N := 27) hx hb hts inlX8 tyX8 tyX8_ok hown (hts (.classLink RL 10 RX8) (List.mem_of_getElem? (i := 3) rfl)) (hts (.instantiable RX8 27) (List.mem_of_getElem? (i := 4) rfl)) (hts (.initialized RX8) (List.mem_of_getElem? (i := 5) rfl)) hK.1 hP hD hS hA rfl (fun j hj => by rcases (show j = 0 ∨ j = 1 ∨ j = 2 ∨ j = 3 ∨ j = 4 ∨ j = 5 ∨ j = 6 ∨ j = 7 ∨ j = 8 ∨ j = 9 ∨ j = 10 ∨ j = 11 ∨ j = 12 ∨ j = 13 ∨ j = 14 ∨ j = 15 ∨ j = 16 ∨ j = 17 ∨ j = 18 ∨ j = 19 ∨ j = 20 ∨ j = 21 ∨ j = 22 ∨ j = 23 ∨ j = 24 ∨ j = 25 ∨ j = 26 by omega) with rfl | rfl | rfl | rfl | rfl | rfl | rfl | rfl | rfl | rfl | rfl | rfl | rfl | rfl | rfl | rfl | rfl | rfl | rfl | rfl | rfl | rfl | rfl | rfl | rfl | rfl | rfl <;> rfl) (Nat.le_of_ble_eq_true rfl) (Nat.le_of_ble_eq_true rfl) dL_law_8 (fun h0 H hP hD hS => ?_)
  have hP : va_P D vwCl (wX7 cA ad X0 ++ [(h0, .inr (8, [.int 0, .null, .null, .null, .null, .null, .null, .null, .null, .null, .null, .null, .null, .int 0, .int 0, .null, .int 0, .null, .null, .null, .int 0, .null, .null, .null, .null, .null, .null]))]) H := hP
  have hD : va_D (fun q : Nat => s.heap.size ≤ q) (wX7 cA ad X0 ++ [(h0, .inr (8, [.int 0, .null, .null, .null, .null, .null, .null, .null, .null, .null, .null, .null, .null, .int 0, .int 0, .null, .int 0, .null, .null, .null, .int 0, .null, .null, .null, .null, .null, .null]))]) := hD
  refine lv_dup hx hb dL_law_11 rfl ?_
  refine cN_I (As := []) (rest := [.ref h0]) (wr := wX7 cA ad X0) ⟨hx, hb, hml, hown, hts⟩ (c_X8_init l D cA h0 o0 ho0) (cwI 0 hts gL_law_X8_init rfl rfl rfl (hts (.initialized RX8) (List.mem_of_getElem? (i := 5) rfl)) (hts (.methodLink RL 12 yX8_init) (List.mem_of_getElem? (i := 110) rfl)) (hts (.instanceMethod yX8_init) (List.mem_of_getElem? (i := 111) rfl)) rfl hd_X8_init.2 ⟨(Nat.le_of_ble_eq_true rfl), (Nat.le_of_ble_eq_true rfl)⟩) hK hP hD hS hA rfl hl.1 rfl (Nat.le_of_ble_eq_true rfl) dL_law_12 ⟨(Nat.le_of_ble_eq_true rfl), (Nat.le_of_ble_eq_true rfl)⟩ (fun a0 H locs ha hP2 hD2 hS => ?_)
  subst ha
  have hP := hP2
  have hD := hD2
  refine W.widen (k := 68) (n := 1770) (Nat.le_of_ble_eq_true rfl) (Nat.le_of_ble_eq_true rfl) ?_
  refine lv_astore_n (lv' := [(2, .ref (a0 0)), (1, .ref (ad 6 0)), (0, .ref b)]) hx hb dL_law_15 rfl hl (by decide) rfl (fun ls hl => ?_)
  refine lv_iconst (v := nI 0) hx hb dL_law_16 (by decide) ?_
  refine lv_istore_n (lv' := [(3, .int (nI 0)), (2, .ref (a0 0)), (1, .ref (ad 6 0)), (0, .ref b)]) hx hb dL_law_17 rfl hl (by decide) rfl (fun ls hl => ?_)
  exact law_loop hsim hr hlocks hx hb hml hown hts hX hbl hK hL (L + 1) 0 (Nat.zero_le L) (by omega) ad a0 X0 o0 hR0 H locs hP hD hS ls (lv_sub hl [3, 2, 1, 0] rfl)
