/-! ===== what alike means of the class and the pure reference (own text) ===== -/
def Sim_write (Rl : (Nat → Ob) → Ob → Prop) : Prop := ∀ X o, Rl X o → ∀ (x1 : Int32), ∀ (x2 : Int64), ∃ (r : Int32) (X_ : Nat → Ob) (o_ : Ob), f_X7_write X x1 x2 = some (r, X_) ∧ f_X8_write o x1 x2 = some (r, o_) ∧ Rl X_ o_
def Sim_wipe (Rl : (Nat → Ob) → Ob → Prop) : Prop := ∀ X o, Rl X o → ∃ (r : Int32) (X_ : Nat → Ob) (o_ : Ob), f_X7_wipe X = some (r, X_) ∧ f_X8_wipe o = some (r, o_) ∧ Rl X_ o_
def Sim_fault (Rl : (Nat → Ob) → Ob → Prop) : Prop := ∀ X o, Rl X o → ∃ (r : Int32) (X_ : Nat → Ob) (o_ : Ob), f_X7_fault X = some (r, X_) ∧ f_X8_fault o = some (r, o_) ∧ Rl X_ o_
def Sim_lay (Rl : (Nat → Ob) → Ob → Prop) : Prop := ∀ X o, Rl X o → ∃ (r : Int32) (X_ : Nat → Ob) (o_ : Ob), f_X7_lay X = some (r, X_) ∧ f_X8_lay o = some (r, o_) ∧ Rl X_ o_
def Sim_knot (Rl : (Nat → Ob) → Ob → Prop) : Prop := ∀ X o, Rl X o → ∀ (x1 : Int32), ∀ (x2 : Int32), ∃ (r : Int32), f_X7_knot X x1 x2 = some r ∧ f_X8_knot o x1 x2 = some r ∧ Rl X o
def Sim_person (Rl : (Nat → Ob) → Ob → Prop) : Prop := ∀ X o, Rl X o → ∀ (x1 : Int32), ∀ (x2 : Int32), ∃ (r : Int32), f_X7_person X x1 x2 = some r ∧ f_X8_person o x1 x2 = some r ∧ Rl X o
def Sim_may (Rl : (Nat → Ob) → Ob → Prop) : Prop := ∀ X o, Rl X o → ∀ (x1 : Int32), ∃ (r : Int32), f_X7_may X x1 = some r ∧ f_X8_may o x1 = some r ∧ Rl X o
def Sim_undo (Rl : (Nat → Ob) → Ob → Prop) : Prop := ∀ X o, Rl X o → ∀ (x1 : Int32), ∃ (r : Int32) (X_ : Nat → Ob) (o_ : Ob), f_X7_undo X x1 = some (r, X_) ∧ f_X8_undo o x1 = some (r, o_) ∧ Rl X_ o_
def Sim_tie (Rl : (Nat → Ob) → Ob → Prop) : Prop := ∀ X o, Rl X o → ∀ (x1 : Int32), ∀ (x2 : Int32), ∀ (x3 : Int32), ∀ (x4 : Int32), ∀ (x5 : Int32), ∃ (r : Int32) (X_ : Nat → Ob) (o_ : Ob), f_X7_tie X x1 x2 x3 x4 x5 = some (r, X_) ∧ f_X8_tie o x1 x2 x3 x4 x5 = some (r, o_) ∧ Rl X_ o_
def Sim_pull (Rl : (Nat → Ob) → Ob → Prop) : Prop := ∀ X o, Rl X o → ∀ (x1 : Int32), ∃ (r : Int32) (X_ : Nat → Ob) (o_ : Ob), f_X7_pull X x1 = some (r, X_) ∧ f_X8_pull o x1 = some (r, o_) ∧ Rl X_ o_
def Sim_cut (Rl : (Nat → Ob) → Ob → Prop) : Prop := ∀ X o, Rl X o → ∀ (x1 : Int32), ∃ (r : Int32) (X_ : Nat → Ob) (o_ : Ob), f_X7_cut X x1 = some (r, X_) ∧ f_X8_cut o x1 = some (r, o_) ∧ Rl X_ o_
def Sim_days (Rl : (Nat → Ob) → Ob → Prop) : Prop := ∀ X o, Rl X o → ∀ (x1 : Int32), ∃ (r : Int32) (X_ : Nat → Ob) (o_ : Ob), f_X7_days X x1 = some (r, X_) ∧ f_X8_days o x1 = some (r, o_) ∧ Rl X_ o_
def Sim_takeBack (Rl : (Nat → Ob) → Ob → Prop) : Prop := ∀ X o, Rl X o → ∃ (r : Int32) (X_ : Nat → Ob) (o_ : Ob), f_X7_takeBack X = some (r, X_) ∧ f_X8_takeBack o = some (r, o_) ∧ Rl X_ o_
def Sim_loosen (Rl : (Nat → Ob) → Ob → Prop) : Prop := ∀ X o, Rl X o → ∀ (x1 : Int32), ∃ (r : Int32) (o_ : Ob), f_X7_loosen X x1 = some r ∧ f_X8_loosen o x1 = some (r, o_) ∧ Rl X o_
def Sim_pay (Rl : (Nat → Ob) → Ob → Prop) : Prop := ∀ X o, Rl X o → ∀ (x1 : Int32), ∃ (r : Int32) (o_ : Ob), f_X7_pay X x1 = some r ∧ f_X8_pay o x1 = some (r, o_) ∧ Rl X o_
def Sim_forEver (Rl : (Nat → Ob) → Ob → Prop) : Prop := ∀ X o, Rl X o → ∃ (r : Int32) (o_ : Ob), f_X7_forEver X = some r ∧ f_X8_forEver o = some (r, o_) ∧ Rl X o_
def Sim_frees (Rl : (Nat → Ob) → Ob → Prop) : Prop := ∀ X o, Rl X o → ∀ (x1 : Int32), ∃ (r : Int32) (o_ : Ob), f_X7_frees X x1 = some r ∧ f_X8_frees o x1 = some (r, o_) ∧ Rl X o_
def Sim_fresh (Rl : (Nat → Ob) → Ob → Prop) : Prop := ∀ X o, Rl X o → ∀ (x1 : Int32), ∀ (x2 : Int32), ∀ (x3 : Int32), ∃ (r : Int32), f_X7_fresh X x1 x2 x3 = some r ∧ f_X8_fresh o x1 x2 x3 = some r ∧ Rl X o
def Sim_orders (Rl : (Nat → Ob) → Ob → Prop) : Prop := ∀ X o, Rl X o → ∃ (r : Int32) (X_ : Nat → Ob) (o_ : Ob), f_X7_orders X = some (r, X_) ∧ f_X8_orders o = some (r, o_) ∧ Rl X_ o_
def Sim_tell (Rl : (Nat → Ob) → Ob → Prop) : Prop := ∀ X o, Rl X o → ∀ (x1 : Int32), ∃ (r : Int32) (X_ : Nat → Ob) (o_ : Ob), f_X7_tell X x1 = some (r, X_) ∧ f_X8_tell o x1 = some (r, o_) ∧ Rl X_ o_
def Sim_noRow (Rl : (Nat → Ob) → Ob → Prop) : Prop := ∀ X o, Rl X o → ∃ (r : Int32) (X_ : Nat → Ob) (o_ : Ob), f_X7_noRow X = some (r, X_) ∧ f_X8_noRow o = some (r, o_) ∧ Rl X_ o_
def Sim_judge (Rl : (Nat → Ob) → Ob → Prop) : Prop := ∀ X o, Rl X o → ∃ (r : Int32), f_X7_judge X = some r ∧ f_X8_judge o = some r ∧ Rl X o
def Sim_cross (Rl : (Nat → Ob) → Ob → Prop) : Prop := ∀ X o, Rl X o → ∀ (x1 : Int32), ∀ (x2 : Int32), ∃ (r : Int32) (X_ : Nat → Ob) (o_ : Ob), f_X7_cross X x1 x2 = some (r, X_) ∧ f_X8_cross o x1 x2 = some (r, o_) ∧ Rl X_ o_
def Sim_smooth (Rl : (Nat → Ob) → Ob → Prop) : Prop := ∀ X o, Rl X o → ∀ (x1 : Int32), ∃ (r : Int32) (X_ : Nat → Ob) (o_ : Ob), f_X7_smooth X x1 = some (r, X_) ∧ f_X8_smooth o x1 = some (r, o_) ∧ Rl X_ o_
def Sim_loose (Rl : (Nat → Ob) → Ob → Prop) : Prop := ∀ X o, Rl X o → ∀ (x1 : Int32), ∀ (x2 : Int32), ∃ (r : Int32) (o_ : Ob), f_X7_loose X x1 x2 = some r ∧ f_X8_loose o x1 x2 = some (r, o_) ∧ Rl X o_
def Sim_alike (Rl : (Nat → Ob) → Ob → Prop) : Prop := ∀ X o, Rl X o → ∃ (r : Int32) (o_ : Ob), f_X7_alike X = some r ∧ f_X8_alike o = some (r, o_) ∧ Rl X o_
def Sim_mark (Rl : (Nat → Ob) → Ob → Prop) : Prop := ∀ X o, Rl X o → ∀ (x1 : Int32), ∀ (x2 : Int32), ∃ (r : Int32), f_X7_mark X x1 x2 = some r ∧ f_X8_mark o x1 x2 = some r ∧ Rl X o
def Sim_year (Rl : (Nat → Ob) → Ob → Prop) : Prop := ∀ X o, Rl X o → ∀ (x1 : Int32), ∀ (x2 : Int32), ∀ (x3 : Int32), ∃ (r : Int32), f_X7_year X x1 x2 x3 = some r ∧ f_X8_year o x1 x2 x3 = some r ∧ Rl X o
def Sim_keep (Rl : (Nat → Ob) → Ob → Prop) : Prop := ∀ X o, Rl X o → ∃ (r : Int32) (X_ : Nat → Ob) (o_ : Ob), f_X7_keep X = some (r, X_) ∧ f_X8_keep o = some (r, o_) ∧ Rl X_ o_
def Sim_back (Rl : (Nat → Ob) → Ob → Prop) : Prop := ∀ X o, Rl X o → ∃ (r : Int32) (X_ : Nat → Ob) (o_ : Ob), f_X7_back X = some (r, X_) ∧ f_X8_back o = some (r, o_) ∧ Rl X_ o_
def Sim_count (Rl : (Nat → Ob) → Ob → Prop) : Prop := ∀ X o, Rl X o → ∀ (x1 : Int32), ∃ (r : Int32), f_X7_count X x1 = some r ∧ f_X8_count o x1 = some r ∧ Rl X o
def Sim (Rl : (Nat → Ob) → Ob → Prop) : Prop := Sim_write Rl ∧ Sim_wipe Rl ∧ Sim_fault Rl ∧ Sim_lay Rl ∧ Sim_knot Rl ∧ Sim_person Rl ∧ Sim_may Rl ∧ Sim_undo Rl ∧ Sim_tie Rl ∧ Sim_pull Rl ∧ Sim_cut Rl ∧ Sim_days Rl ∧ Sim_takeBack Rl ∧ Sim_loosen Rl ∧ Sim_pay Rl ∧ Sim_forEver Rl ∧ Sim_frees Rl ∧ Sim_fresh Rl ∧ Sim_orders Rl ∧ Sim_tell Rl ∧ Sim_noRow Rl ∧ Sim_judge Rl ∧ Sim_cross Rl ∧ Sim_smooth Rl ∧ Sim_loose Rl ∧ Sim_alike Rl ∧ Sim_mark Rl ∧ Sim_year Rl ∧ Sim_keep Rl ∧ Sim_back Rl ∧ Sim_count Rl
