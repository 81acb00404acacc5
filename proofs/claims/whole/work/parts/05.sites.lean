theorem ix {w : Jvm.Cond} (i : Nat) (h : lw_tbl[i]? = some w) : w ∈ lw_tbl := List.mem_of_getElem? h
def catL : List (Nat × Nat) := [(9, 13), (10, 15), (13, 27), (12, 21), (11, 40)]
/-- the pool entry by which the law's class names an exception's class -/
def catI (k : Nat) : Nat := match k with | 9 => 13 | 10 => 15 | 13 => 27 | 12 => 21 | 11 => 40 | _ => 0
def plainM (y : MethodName) : Bool := plainName y.cls && y.cls != "java/lang/invoke/MethodHandle" && y.cls != "java/lang/invoke/VarHandle"
def hxs (m : Mr) : List (Nat × Nat × Nat × Nat) := (mH m).map fun e => (e.1, e.2.1, e.2.2.1, catI e.2.2.2)
/-- a method that may be called: what the tables say of it -/
def mOK (m : Mr) : Prop := ((mH m = [] ∧ Jvm.Cond.code (mY m) (mB m) (mL m) (mR m) ∈ lw_tbl) ∨ ((mC m = 16 ∧ mI m = false) ∧ (∀ e ∈ mH m, 9 ≤ e.2.2.2 ∧ e.2.2.2 < 14) ∧ Jvm.Cond.codeWith (mY m) (mB m) (mL m) (mR m) (hxs m) ∈ lw_tbl)) ∧ Jvm.Cond.initialized (mY m).cls ∈ lw_tbl ∧ (plainM (mY m) = true ∧ clN (mC m) = (mY m).cls ∧ mI m = decide ((mY m).name = "<init>") ∧ mL m ≤ 37)
def lk (own : String) (k : Nat) (y : MethodName) : Prop := Jvm.Cond.methodLink own k y ∈ lw_tbl ∨ ∃ hst, Jvm.Cond.methodLinkNest own k y hst ∈ lw_tbl
def pnum (y : MethodName) : Option Nat := (parseMethodDescriptor y.desc).map fun d => d.parameters.length
def okS0 (c k n : Nat) (m : Mr) : Prop := lk (clN c) k (mY m) ∧ Jvm.Cond.static (mY m) ∈ lw_tbl ∧ pnum (mY m) = some n ∧ mOK m
def okS1 (c k n : Nat) (m : Mr) : Prop := lk (clN c) k (mY m) ∧ Jvm.Cond.instanceMethod (mY m) ∈ lw_tbl ∧ (∃ j, n = j + 1 ∧ pnum (mY m) = some j) ∧ ((mY m).name = "<init>" ∧ mR m = none) ∧ mOK m
def okS2 (c k n : Nat) (m : Mr) (rc : Nat) : Prop := Jvm.Cond.methodLink (clN c) k (mY m) ∈ lw_tbl ∧ Jvm.Cond.instanceMethod (mY m) ∈ lw_tbl ∧ Jvm.Cond.selects (clN rc) (mY m) (mY m) ∈ lw_tbl ∧ (∃ j, n = j + 1 ∧ pnum (mY m) = some j) ∧ (rc < 9 ∧ (mY m).cls = clN rc) ∧ mOK m
/-- an inherited or overriding method, or a private one of a class above: x is what the entry names, o who declares it -/
def okS5 (c k n : Nat) (m : Mr) (rc : Nat) : Prop := ∃ (x : MethodName) (o : String), Jvm.Cond.methodLink (clN c) k x ∈ lw_tbl ∧ Jvm.Cond.sameMethod x.cls o x.name x.desc ∈ lw_tbl ∧ (Jvm.Cond.declares ⟨o, x.name, x.desc⟩ ∈ lw_tbl ∨ (mY m = ⟨o, x.name, x.desc⟩)) ∧ Jvm.Cond.instanceMethod (mY m) ∈ lw_tbl ∧
  (Jvm.Cond.selects (clN rc) x (mY m) ∈ lw_tbl ∨ (x = mY m ∧ o = (mY m).cls ∧ Jvm.Cond.privateMethod (mY m) ∈ lw_tbl)) ∧ (∃ j, n = j + 1 ∧ pnum x = some j) ∧ (rc < 9 ∧ (o != "java/lang/invoke/MethodHandle" && o != "java/lang/invoke/VarHandle") = true) ∧ mOK m
def sOK (c k : Nat) (v : Nat × Nat × List (Nat × Mr)) : Prop := match v.1 with
  | 0 => ∀ t ∈ v.2.2, okS0 c k v.2.1 t.2
  | 1 => ∀ t ∈ v.2.2, okS1 c k v.2.1 t.2
  | 2 => ∀ t ∈ v.2.2, okS2 c k v.2.1 t.2 t.1
  | 3 => Jvm.Cond.methodLink (clN c) k Lib.objectInit ∈ lw_tbl
  | 4 => Jvm.Cond.methodLink (clN c) k arraycopyName ∈ lw_tbl
  | 6 => Jvm.Cond.methodLink (clN c) k Lib.Math.max.name ∈ lw_tbl
  | 7 => Jvm.Cond.methodLink (clN c) k Lib.Math.min.name ∈ lw_tbl
  | 8 => Jvm.Cond.methodLink (clN c) k Lib.MathLoose.max_long.x ∈ lw_tbl
  | 9 => Jvm.Cond.methodLink (clN c) k Lib.MathLoose.min_long.x ∈ lw_tbl
  | _ => ∀ t ∈ v.2.2, okS5 c k v.2.1 t.2 t.1
/-- a field's entry: ref is the class by which the entry names it -/
def fOK (c k : Nat) (v : List Nat × Nat × Nat × Bool × String) : Prop := ∀ rc ∈ v.1, ∃ q, kls[rc]? = some q ∧ v.2.1 < q.2.2 ∧ Jvm.Cond.fieldLink (clN c) k v.2.2.2.2 (q.2.1 v.2.1).2.1 (q.2.1 v.2.1).2.2.1 ∈ lw_tbl ∧ ((q.2.1 v.2.1).1 = v.2.2.2.2 ∨ Jvm.Cond.sameField v.2.2.2.2 (q.2.1 v.2.1).1 (q.2.1 v.2.1).2.1 (q.2.1 v.2.1).2.2.1 ∈ lw_tbl) ∧ (q.2.1 v.2.1).2.2.2 = v.2.2.2.1 ∧ ftg rc v.2.1 = v.2.2.1 ∧ (v.2.2.2.1 = true → (q.2.1 v.2.1).1 = clN c) ∧ rc < 9
theorem fa_nil {α : Type} {P : α → Prop} : ∀ a ∈ ([] : List α), P a := fun _ h => absurd h List.not_mem_nil
theorem fa_cons {α : Type} {P : α → Prop} {a : α} {l : List α} (h : P a) (t : ∀ b ∈ l, P b) : ∀ b ∈ a :: l, P b := List.forall_mem_cons.mpr ⟨h, t⟩
theorem tb_1 : ∀ w ∈ tables_1_1, w ∈ lw_tbl := fun _ h => List.mem_append_right _ (List.mem_append_left _ h)
theorem tb_2 : ∀ w ∈ tables_1_2, w ∈ lw_tbl := fun _ h => List.mem_append_right _ (List.mem_append_right _ (List.mem_append_left _ h))
theorem tb_3 : ∀ w ∈ tables_1_3, w ∈ lw_tbl := fun _ h => List.mem_append_right _ (List.mem_append_right _ (List.mem_append_right _ (List.mem_append_left _ h)))
theorem tb_4 : ∀ w ∈ tables_1_4, w ∈ lw_tbl := fun _ h => List.mem_append_right _ (List.mem_append_right _ (List.mem_append_right _ (List.mem_append_right _ (List.mem_append_left _ h))))
theorem tb_5 : ∀ w ∈ tables_1_5, w ∈ lw_tbl := fun _ h => List.mem_append_right _ (List.mem_append_right _ (List.mem_append_right _ (List.mem_append_right _ (List.mem_append_right _ (List.mem_append_left _ h)))))
theorem tb_6 : ∀ w ∈ tables_1_6, w ∈ lw_tbl := fun _ h => List.mem_append_right _ (List.mem_append_right _ (List.mem_append_right _ (List.mem_append_right _ (List.mem_append_right _ (List.mem_append_right _ (h))))))
set_option maxRecDepth 100000 in
theorem ok_Ff_init : mOK m_Ff_init := ⟨Or.inl ⟨rfl, tb_1 _ (List.mem_of_getElem? (i := 25) rfl)⟩, ix 69 (by decide +kernel), ⟨by decide +kernel, rfl, by decide +kernel, by decide +kernel⟩⟩
set_option maxRecDepth 100000 in
theorem ok_Ff_type : mOK m_Ff_type := ⟨Or.inl ⟨rfl, tb_2 _ (List.mem_of_getElem? (i := 92) rfl)⟩, ix 69 (by decide +kernel), ⟨by decide +kernel, rfl, by decide +kernel, by decide +kernel⟩⟩
set_option maxRecDepth 100000 in
theorem ok_Ff_clear : mOK m_Ff_clear := ⟨Or.inl ⟨rfl, tb_1 _ (List.mem_of_getElem? (i := 198) rfl)⟩, ix 69 (by decide +kernel), ⟨by decide +kernel, rfl, by decide +kernel, by decide +kernel⟩⟩
set_option maxRecDepth 100000 in
theorem ok_Ff_fault : mOK m_Ff_fault := ⟨Or.inl ⟨rfl, tb_1 _ (List.mem_of_getElem? (i := 206) rfl)⟩, ix 69 (by decide +kernel), ⟨by decide +kernel, rfl, by decide +kernel, by decide +kernel⟩⟩
set_option maxRecDepth 100000 in
theorem ok_Ff_compile : mOK m_Ff_compile := ⟨Or.inl ⟨rfl, tb_2 _ (List.mem_of_getElem? (i := 196) rfl)⟩, ix 69 (by decide +kernel), ⟨by decide +kernel, rfl, by decide +kernel, by decide +kernel⟩⟩
set_option maxRecDepth 100000 in
theorem ok_Ff_size : mOK m_Ff_size := ⟨Or.inl ⟨rfl, tb_3 _ (List.mem_of_getElem? (i := 50) rfl)⟩, ix 69 (by decide +kernel), ⟨by decide +kernel, rfl, by decide +kernel, by decide +kernel⟩⟩
set_option maxRecDepth 100000 in
theorem ok_Ff_put : mOK m_Ff_put := ⟨Or.inl ⟨rfl, tb_3 _ (List.mem_of_getElem? (i := 77) rfl)⟩, ix 69 (by decide +kernel), ⟨by decide +kernel, rfl, by decide +kernel, by decide +kernel⟩⟩
set_option maxRecDepth 100000 in
theorem ok_Ff_cut : mOK m_Ff_cut := ⟨Or.inl ⟨rfl, tb_3 _ (List.mem_of_getElem? (i := 86) rfl)⟩, ix 69 (by decide +kernel), ⟨by decide +kernel, rfl, by decide +kernel, by decide +kernel⟩⟩
set_option maxRecDepth 100000 in
theorem ok_Ff_read : mOK m_Ff_read := ⟨Or.inl ⟨rfl, tb_3 _ (List.mem_of_getElem? (i := 99) rfl)⟩, ix 69 (by decide +kernel), ⟨by decide +kernel, rfl, by decide +kernel, by decide +kernel⟩⟩
set_option maxRecDepth 100000 in
theorem ok_Ff_write : mOK m_Ff_write := ⟨Or.inl ⟨rfl, tb_4 _ (List.mem_of_getElem? (i := 81) rfl)⟩, ix 69 (by decide +kernel), ⟨by decide +kernel, rfl, by decide +kernel, by decide +kernel⟩⟩
set_option maxRecDepth 100000 in
theorem ok_Ff_value : mOK m_Ff_value := ⟨Or.inl ⟨rfl, tb_4 _ (List.mem_of_getElem? (i := 120) rfl)⟩, ix 69 (by decide +kernel), ⟨by decide +kernel, rfl, by decide +kernel, by decide +kernel⟩⟩
set_option maxRecDepth 100000 in
theorem ok_Ff_real : mOK m_Ff_real := ⟨Or.inl ⟨rfl, tb_4 _ (List.mem_of_getElem? (i := 133) rfl)⟩, ix 69 (by decide +kernel), ⟨by decide +kernel, rfl, by decide +kernel, by decide +kernel⟩⟩
set_option maxRecDepth 100000 in
theorem ok_Ff_set : mOK m_Ff_set := ⟨Or.inl ⟨rfl, tb_4 _ (List.mem_of_getElem? (i := 149) rfl)⟩, ix 69 (by decide +kernel), ⟨by decide +kernel, rfl, by decide +kernel, by decide +kernel⟩⟩
set_option maxRecDepth 100000 in
theorem ok_Ff_drop : mOK m_Ff_drop := ⟨Or.inl ⟨rfl, tb_4 _ (List.mem_of_getElem? (i := 163) rfl)⟩, ix 69 (by decide +kernel), ⟨by decide +kernel, rfl, by decide +kernel, by decide +kernel⟩⟩
set_option maxRecDepth 100000 in
theorem ok_Ff_byteAt : mOK m_Ff_byteAt := ⟨Or.inl ⟨rfl, tb_4 _ (List.mem_of_getElem? (i := 175) rfl)⟩, ix 69 (by decide +kernel), ⟨by decide +kernel, rfl, by decide +kernel, by decide +kernel⟩⟩
set_option maxRecDepth 100000 in
theorem ok_Ff_count : mOK m_Ff_count := ⟨Or.inl ⟨rfl, tb_4 _ (List.mem_of_getElem? (i := 184) rfl)⟩, ix 69 (by decide +kernel), ⟨by decide +kernel, rfl, by decide +kernel, by decide +kernel⟩⟩
set_option maxRecDepth 100000 in
theorem ok_Ff_demandCompiled : mOK m_Ff_demandCompiled := ⟨Or.inl ⟨rfl, tb_3 _ (List.mem_of_getElem? (i := 103) rfl)⟩, ix 69 (by decide +kernel), ⟨by decide +kernel, rfl, by decide +kernel, by decide +kernel⟩⟩
set_option maxRecDepth 100000 in
theorem ok_Ff_demandFine : mOK m_Ff_demandFine := ⟨Or.inl ⟨rfl, tb_4 _ (List.mem_of_getElem? (i := 45) rfl)⟩, ix 69 (by decide +kernel), ⟨by decide +kernel, rfl, by decide +kernel, by decide +kernel⟩⟩
set_option maxRecDepth 100000 in
theorem ok_Ff_demandValue : mOK m_Ff_demandValue := ⟨Or.inl ⟨rfl, tb_4 _ (List.mem_of_getElem? (i := 124) rfl)⟩, ix 69 (by decide +kernel), ⟨by decide +kernel, rfl, by decide +kernel, by decide +kernel⟩⟩
set_option maxRecDepth 100000 in
theorem ok_Ff_byteOf : mOK m_Ff_byteOf := ⟨Or.inl ⟨rfl, tb_2 _ (List.mem_of_getElem? (i := 95) rfl)⟩, ix 69 (by decide +kernel), ⟨by decide +kernel, rfl, by decide +kernel, by decide +kernel⟩⟩
set_option maxRecDepth 100000 in
theorem ok_Ff_doubleOf : mOK m_Ff_doubleOf := ⟨Or.inl ⟨rfl, tb_4 _ (List.mem_of_getElem? (i := 136) rfl)⟩, ix 69 (by decide +kernel), ⟨by decide +kernel, rfl, by decide +kernel, by decide +kernel⟩⟩
set_option maxRecDepth 100000 in
theorem ok_Mo_init : mOK m_Mo_init := ⟨Or.inl ⟨rfl, tb_4 _ (List.mem_of_getElem? (i := 190) rfl)⟩, ix 74 (by decide +kernel), ⟨by decide +kernel, rfl, by decide +kernel, by decide +kernel⟩⟩
set_option maxRecDepth 100000 in
theorem ok_Mo_thrown : mOK m_Mo_thrown := ⟨Or.inl ⟨rfl, tb_5 _ (List.mem_of_getElem? (i := 104) rfl)⟩, ix 74 (by decide +kernel), ⟨by decide +kernel, rfl, by decide +kernel, by decide +kernel⟩⟩
set_option maxRecDepth 100000 in
theorem ok_Mo_fail : mOK m_Mo_fail := ⟨Or.inl ⟨rfl, tb_5 _ (List.mem_of_getElem? (i := 112) rfl)⟩, ix 74 (by decide +kernel), ⟨by decide +kernel, rfl, by decide +kernel, by decide +kernel⟩⟩
set_option maxRecDepth 100000 in
theorem ok_Mo_out : mOK m_Mo_out := ⟨Or.inl ⟨rfl, tb_6 _ (List.mem_of_getElem? (i := 85) rfl)⟩, ix 74 (by decide +kernel), ⟨by decide +kernel, rfl, by decide +kernel, by decide +kernel⟩⟩
set_option maxRecDepth 100000 in
theorem ok_Mo_isDigit : mOK m_Mo_isDigit := ⟨Or.inl ⟨rfl, tb_5 _ (List.mem_of_getElem? (i := 152) rfl)⟩, ix 74 (by decide +kernel), ⟨by decide +kernel, rfl, by decide +kernel, by decide +kernel⟩⟩
set_option maxRecDepth 100000 in
theorem ok_Mo_sized : mOK m_Mo_sized := ⟨Or.inl ⟨rfl, tb_5 _ (List.mem_of_getElem? (i := 136) rfl)⟩, ix 74 (by decide +kernel), ⟨by decide +kernel, rfl, by decide +kernel, by decide +kernel⟩⟩
set_option maxRecDepth 100000 in
theorem ok_Mo_type : mOK m_Mo_type := ⟨Or.inl ⟨rfl, tb_5 _ (List.mem_of_getElem? (i := 108) rfl)⟩, ix 74 (by decide +kernel), ⟨by decide +kernel, rfl, by decide +kernel, by decide +kernel⟩⟩
set_option maxRecDepth 100000 in
theorem ok_Mo_clear : mOK m_Mo_clear := ⟨Or.inl ⟨rfl, tb_5 _ (List.mem_of_getElem? (i := 116) rfl)⟩, ix 74 (by decide +kernel), ⟨by decide +kernel, rfl, by decide +kernel, by decide +kernel⟩⟩
set_option maxRecDepth 100000 in
theorem ok_Mo_finish : mOK m_Mo_finish := ⟨Or.inl ⟨rfl, tb_5 _ (List.mem_of_getElem? (i := 144) rfl)⟩, ix 74 (by decide +kernel), ⟨by decide +kernel, rfl, by decide +kernel, by decide +kernel⟩⟩
set_option maxRecDepth 100000 in
theorem ok_Mo_beginType : mOK m_Mo_beginType := ⟨Or.inl ⟨rfl, tb_5 _ (List.mem_of_getElem? (i := 132) rfl)⟩, ix 74 (by decide +kernel), ⟨by decide +kernel, rfl, by decide +kernel, by decide +kernel⟩⟩
set_option maxRecDepth 100000 in
theorem ok_Mo_hang : mOK m_Mo_hang := ⟨Or.inl ⟨rfl, tb_5 _ (List.mem_of_getElem? (i := 140) rfl)⟩, ix 74 (by decide +kernel), ⟨by decide +kernel, rfl, by decide +kernel, by decide +kernel⟩⟩
set_option maxRecDepth 100000 in
theorem ok_Mo_isName : mOK m_Mo_isName := ⟨Or.inl ⟨rfl, tb_5 _ (List.mem_of_getElem? (i := 160) rfl)⟩, ix 74 (by decide +kernel), ⟨by decide +kernel, rfl, by decide +kernel, by decide +kernel⟩⟩
set_option maxRecDepth 100000 in
theorem ok_Mo_inSized : mOK m_Mo_inSized := ⟨Or.inl ⟨rfl, tb_5 _ (List.mem_of_getElem? (i := 148) rfl)⟩, ix 74 (by decide +kernel), ⟨by decide +kernel, rfl, by decide +kernel, by decide +kernel⟩⟩
set_option maxRecDepth 100000 in
theorem ok_Mo_inStructure : mOK m_Mo_inStructure := ⟨Or.inl ⟨rfl, tb_5 _ (List.mem_of_getElem? (i := 156) rfl)⟩, ix 74 (by decide +kernel), ⟨by decide +kernel, rfl, by decide +kernel, by decide +kernel⟩⟩
set_option maxRecDepth 100000 in
theorem ok_Mo_inChoice : mOK m_Mo_inChoice := ⟨Or.inl ⟨rfl, tb_5 _ (List.mem_of_getElem? (i := 164) rfl)⟩, ix 74 (by decide +kernel), ⟨by decide +kernel, rfl, by decide +kernel, by decide +kernel⟩⟩
set_option maxRecDepth 100000 in
theorem ok_Mo_inMany : mOK m_Mo_inMany := ⟨Or.inl ⟨rfl, tb_5 _ (List.mem_of_getElem? (i := 168) rfl)⟩, ix 74 (by decide +kernel), ⟨by decide +kernel, rfl, by decide +kernel, by decide +kernel⟩⟩
set_option maxRecDepth 100000 in
theorem ok_Mo_sign : mOK m_Mo_sign := ⟨Or.inl ⟨rfl, tb_5 _ (List.mem_of_getElem? (i := 128) rfl)⟩, ix 74 (by decide +kernel), ⟨by decide +kernel, rfl, by decide +kernel, by decide +kernel⟩⟩
set_option maxRecDepth 100000 in
theorem ok_Mo_wholeNow : mOK m_Mo_wholeNow := ⟨Or.inl ⟨rfl, tb_5 _ (List.mem_of_getElem? (i := 172) rfl)⟩, ix 74 (by decide +kernel), ⟨by decide +kernel, rfl, by decide +kernel, by decide +kernel⟩⟩
set_option maxRecDepth 100000 in
theorem ok_Mo_scan : mOK m_Mo_scan := ⟨Or.inl ⟨rfl, tb_5 _ (List.mem_of_getElem? (i := 124) rfl)⟩, ix 74 (by decide +kernel), ⟨by decide +kernel, rfl, by decide +kernel, by decide +kernel⟩⟩
set_option maxRecDepth 100000 in
theorem ok_Mo_fault : mOK m_Mo_fault := ⟨Or.inl ⟨rfl, tb_5 _ (List.mem_of_getElem? (i := 120) rfl)⟩, ix 74 (by decide +kernel), ⟨by decide +kernel, rfl, by decide +kernel, by decide +kernel⟩⟩
set_option maxRecDepth 100000 in
theorem ok_Mo_interval : mOK m_Mo_interval := ⟨Or.inl ⟨rfl, tb_5 _ (List.mem_of_getElem? (i := 184) rfl)⟩, ix 74 (by decide +kernel), ⟨by decide +kernel, rfl, by decide +kernel, by decide +kernel⟩⟩
set_option maxRecDepth 100000 in
theorem ok_Mo_find : mOK m_Mo_find := ⟨Or.inl ⟨rfl, tb_5 _ (List.mem_of_getElem? (i := 189) rfl)⟩, ix 74 (by decide +kernel), ⟨by decide +kernel, rfl, by decide +kernel, by decide +kernel⟩⟩
set_option maxRecDepth 100000 in
theorem ok_Mo_capped : mOK m_Mo_capped := ⟨Or.inl ⟨rfl, tb_5 _ (List.mem_of_getElem? (i := 205) rfl)⟩, ix 74 (by decide +kernel), ⟨by decide +kernel, rfl, by decide +kernel, by decide +kernel⟩⟩
set_option maxRecDepth 100000 in
theorem ok_Mo_sumFields : mOK m_Mo_sumFields := ⟨Or.inl ⟨rfl, tb_5 _ (List.mem_of_getElem? (i := 201) rfl)⟩, ix 74 (by decide +kernel), ⟨by decide +kernel, rfl, by decide +kernel, by decide +kernel⟩⟩
set_option maxRecDepth 100000 in
theorem ok_Mo_measure : mOK m_Mo_measure := ⟨Or.inl ⟨rfl, tb_5 _ (List.mem_of_getElem? (i := 193) rfl)⟩, ix 74 (by decide +kernel), ⟨by decide +kernel, rfl, by decide +kernel, by decide +kernel⟩⟩
set_option maxRecDepth 100000 in
theorem ok_Mo_goodCases : mOK m_Mo_goodCases := ⟨Or.inl ⟨rfl, tb_5 _ (List.mem_of_getElem? (i := 215) rfl)⟩, ix 74 (by decide +kernel), ⟨by decide +kernel, rfl, by decide +kernel, by decide +kernel⟩⟩
set_option maxRecDepth 100000 in
theorem ok_Mo_soundNode : mOK m_Mo_soundNode := ⟨Or.inl ⟨rfl, tb_5 _ (List.mem_of_getElem? (i := 210) rfl)⟩, ix 74 (by decide +kernel), ⟨by decide +kernel, rfl, by decide +kernel, by decide +kernel⟩⟩
set_option maxRecDepth 100000 in
theorem ok_Mo_soundAll : mOK m_Mo_soundAll := ⟨Or.inl ⟨rfl, tb_5 _ (List.mem_of_getElem? (i := 180) rfl)⟩, ix 74 (by decide +kernel), ⟨by decide +kernel, rfl, by decide +kernel, by decide +kernel⟩⟩
set_option maxRecDepth 100000 in
theorem ok_Mo_compile : mOK m_Mo_compile := ⟨Or.inl ⟨rfl, tb_5 _ (List.mem_of_getElem? (i := 176) rfl)⟩, ix 74 (by decide +kernel), ⟨by decide +kernel, rfl, by decide +kernel, by decide +kernel⟩⟩
set_option maxRecDepth 100000 in
theorem ok_Mo_restore : mOK m_Mo_restore := ⟨Or.inl ⟨rfl, tb_5 _ (List.mem_of_getElem? (i := 223) rfl)⟩, ix 74 (by decide +kernel), ⟨by decide +kernel, rfl, by decide +kernel, by decide +kernel⟩⟩
set_option maxRecDepth 100000 in
theorem ok_Mo_size : mOK m_Mo_size := ⟨Or.inl ⟨rfl, tb_5 _ (List.mem_of_getElem? (i := 219) rfl)⟩, ix 74 (by decide +kernel), ⟨by decide +kernel, rfl, by decide +kernel, by decide +kernel⟩⟩
set_option maxRecDepth 100000 in
theorem ok_Mo_put : mOK m_Mo_put := ⟨Or.inl ⟨rfl, tb_5 _ (List.mem_of_getElem? (i := 227) rfl)⟩, ix 74 (by decide +kernel), ⟨by decide +kernel, rfl, by decide +kernel, by decide +kernel⟩⟩
set_option maxRecDepth 100000 in
theorem ok_Mo_cut : mOK m_Mo_cut := ⟨Or.inl ⟨rfl, tb_5 _ (List.mem_of_getElem? (i := 231) rfl)⟩, ix 74 (by decide +kernel), ⟨by decide +kernel, rfl, by decide +kernel, by decide +kernel⟩⟩
set_option maxRecDepth 100000 in
theorem ok_Mo_wrong : mOK m_Mo_wrong := ⟨Or.inl ⟨rfl, tb_6 _ (List.mem_of_getElem? (i := 15) rfl)⟩, ix 74 (by decide +kernel), ⟨by decide +kernel, rfl, by decide +kernel, by decide +kernel⟩⟩
set_option maxRecDepth 100000 in
theorem ok_Mo_nextByte : mOK m_Mo_nextByte := ⟨Or.inl ⟨rfl, tb_6 _ (List.mem_of_getElem? (i := 47) rfl)⟩, ix 74 (by decide +kernel), ⟨by decide +kernel, rfl, by decide +kernel, by decide +kernel⟩⟩
set_option maxRecDepth 100000 in
theorem ok_Mo_putByte : mOK m_Mo_putByte := ⟨Or.inl ⟨rfl, tb_6 _ (List.mem_of_getElem? (i := 35) rfl)⟩, ix 74 (by decide +kernel), ⟨by decide +kernel, rfl, by decide +kernel, by decide +kernel⟩⟩
set_option maxRecDepth 100000 in
theorem ok_Mo_take : mOK m_Mo_take := ⟨Or.inl ⟨rfl, tb_6 _ (List.mem_of_getElem? (i := 27) rfl)⟩, ix 74 (by decide +kernel), ⟨by decide +kernel, rfl, by decide +kernel, by decide +kernel⟩⟩
set_option maxRecDepth 100000 in
theorem ok_Mo_give : mOK m_Mo_give := ⟨Or.inl ⟨rfl, tb_6 _ (List.mem_of_getElem? (i := 55) rfl)⟩, ix 74 (by decide +kernel), ⟨by decide +kernel, rfl, by decide +kernel, by decide +kernel⟩⟩
set_option maxRecDepth 100000 in
theorem ok_Mo_rest : mOK m_Mo_rest := ⟨Or.inl ⟨rfl, tb_6 _ (List.mem_of_getElem? (i := 11) rfl)⟩, ix 74 (by decide +kernel), ⟨by decide +kernel, rfl, by decide +kernel, by decide +kernel⟩⟩
set_option maxRecDepth 100000 in
theorem ok_Mo_nameAround : mOK m_Mo_nameAround := ⟨Or.inl ⟨rfl, tb_6 _ (List.mem_of_getElem? (i := 19) rfl)⟩, ix 74 (by decide +kernel), ⟨by decide +kernel, rfl, by decide +kernel, by decide +kernel⟩⟩
set_option maxRecDepth 100000 in
theorem ok_Mo_readBits : mOK m_Mo_readBits := ⟨Or.inl ⟨rfl, tb_6 _ (List.mem_of_getElem? (i := 43) rfl)⟩, ix 74 (by decide +kernel), ⟨by decide +kernel, rfl, by decide +kernel, by decide +kernel⟩⟩
set_option maxRecDepth 100000 in
theorem ok_Mo_writeBits : mOK m_Mo_writeBits := ⟨Or.inl ⟨rfl, tb_6 _ (List.mem_of_getElem? (i := 31) rfl)⟩, ix 74 (by decide +kernel), ⟨by decide +kernel, rfl, by decide +kernel, by decide +kernel⟩⟩
set_option maxRecDepth 100000 in
theorem ok_Mo_readNumber : mOK m_Mo_readNumber := ⟨Or.inl ⟨rfl, tb_6 _ (List.mem_of_getElem? (i := 51) rfl)⟩, ix 74 (by decide +kernel), ⟨by decide +kernel, rfl, by decide +kernel, by decide +kernel⟩⟩
set_option maxRecDepth 100000 in
theorem ok_Mo_writeNumber : mOK m_Mo_writeNumber := ⟨Or.inl ⟨rfl, tb_6 _ (List.mem_of_getElem? (i := 39) rfl)⟩, ix 74 (by decide +kernel), ⟨by decide +kernel, rfl, by decide +kernel, by decide +kernel⟩⟩
set_option maxRecDepth 100000 in
theorem ok_Mo_sizedUnit : mOK m_Mo_sizedUnit := ⟨Or.inl ⟨rfl, tb_6 _ (List.mem_of_getElem? (i := 23) rfl)⟩, ix 74 (by decide +kernel), ⟨by decide +kernel, rfl, by decide +kernel, by decide +kernel⟩⟩
set_option maxRecDepth 100000 in
theorem ok_Mo_floating : mOK m_Mo_floating := ⟨Or.inl ⟨rfl, tb_6 _ (List.mem_of_getElem? (i := 59) rfl)⟩, ix 74 (by decide +kernel), ⟨by decide +kernel, rfl, by decide +kernel, by decide +kernel⟩⟩
set_option maxRecDepth 100000 in
theorem ok_Mo_words : mOK m_Mo_words := ⟨Or.inl ⟨rfl, tb_6 _ (List.mem_of_getElem? (i := 69) rfl)⟩, ix 74 (by decide +kernel), ⟨by decide +kernel, rfl, by decide +kernel, by decide +kernel⟩⟩
set_option maxRecDepth 100000 in
theorem ok_Mo_writeWords : mOK m_Mo_writeWords := ⟨Or.inl ⟨rfl, tb_6 _ (List.mem_of_getElem? (i := 63) rfl)⟩, ix 74 (by decide +kernel), ⟨by decide +kernel, rfl, by decide +kernel, by decide +kernel⟩⟩
set_option maxRecDepth 100000 in
theorem ok_Mo_unit : mOK m_Mo_unit := ⟨Or.inl ⟨rfl, tb_6 _ (List.mem_of_getElem? (i := 7) rfl)⟩, ix 74 (by decide +kernel), ⟨by decide +kernel, rfl, by decide +kernel, by decide +kernel⟩⟩
set_option maxRecDepth 100000 in
theorem ok_Mo_enter : mOK m_Mo_enter := ⟨Or.inl ⟨rfl, tb_6 _ (List.mem_of_getElem? (i := 3) rfl)⟩, ix 74 (by decide +kernel), ⟨by decide +kernel, rfl, by decide +kernel, by decide +kernel⟩⟩
set_option maxRecDepth 100000 in
theorem ok_Mo_goOn : mOK m_Mo_goOn := ⟨Or.inl ⟨rfl, tb_6 _ (List.mem_of_getElem? (i := 73) rfl)⟩, ix 74 (by decide +kernel), ⟨by decide +kernel, rfl, by decide +kernel, by decide +kernel⟩⟩
set_option maxRecDepth 100000 in
theorem ok_Mo_pass : mOK m_Mo_pass := ⟨Or.inl ⟨rfl, tb_5 _ (List.mem_of_getElem? (i := 239) rfl)⟩, ix 74 (by decide +kernel), ⟨by decide +kernel, rfl, by decide +kernel, by decide +kernel⟩⟩
set_option maxRecDepth 100000 in
theorem ok_Mo_read : mOK m_Mo_read := ⟨Or.inl ⟨rfl, tb_5 _ (List.mem_of_getElem? (i := 235) rfl)⟩, ix 74 (by decide +kernel), ⟨by decide +kernel, rfl, by decide +kernel, by decide +kernel⟩⟩
set_option maxRecDepth 100000 in
theorem ok_Mo_write : mOK m_Mo_write := ⟨Or.inl ⟨rfl, tb_6 _ (List.mem_of_getElem? (i := 77) rfl)⟩, ix 74 (by decide +kernel), ⟨by decide +kernel, rfl, by decide +kernel, by decide +kernel⟩⟩
set_option maxRecDepth 100000 in
theorem ok_Mo_value : mOK m_Mo_value := ⟨Or.inl ⟨rfl, tb_6 _ (List.mem_of_getElem? (i := 81) rfl)⟩, ix 74 (by decide +kernel), ⟨by decide +kernel, rfl, by decide +kernel, by decide +kernel⟩⟩
set_option maxRecDepth 100000 in
theorem ok_Mo_real : mOK m_Mo_real := ⟨Or.inl ⟨rfl, tb_6 _ (List.mem_of_getElem? (i := 89) rfl)⟩, ix 74 (by decide +kernel), ⟨by decide +kernel, rfl, by decide +kernel, by decide +kernel⟩⟩
set_option maxRecDepth 100000 in
theorem ok_Mo_set : mOK m_Mo_set := ⟨Or.inl ⟨rfl, tb_6 _ (List.mem_of_getElem? (i := 99) rfl)⟩, ix 74 (by decide +kernel), ⟨by decide +kernel, rfl, by decide +kernel, by decide +kernel⟩⟩
set_option maxRecDepth 100000 in
theorem ok_Mo_drop : mOK m_Mo_drop := ⟨Or.inl ⟨rfl, tb_6 _ (List.mem_of_getElem? (i := 103) rfl)⟩, ix 74 (by decide +kernel), ⟨by decide +kernel, rfl, by decide +kernel, by decide +kernel⟩⟩
set_option maxRecDepth 100000 in
theorem ok_Mo_byteAt : mOK m_Mo_byteAt := ⟨Or.inl ⟨rfl, tb_6 _ (List.mem_of_getElem? (i := 107) rfl)⟩, ix 74 (by decide +kernel), ⟨by decide +kernel, rfl, by decide +kernel, by decide +kernel⟩⟩
set_option maxRecDepth 100000 in
theorem ok_Mo_count : mOK m_Mo_count := ⟨Or.inl ⟨rfl, tb_6 _ (List.mem_of_getElem? (i := 111) rfl)⟩, ix 74 (by decide +kernel), ⟨by decide +kernel, rfl, by decide +kernel, by decide +kernel⟩⟩
set_option maxRecDepth 100000 in
theorem ok_By_init : mOK m_By_init := ⟨Or.inl ⟨rfl, tb_1 _ (List.mem_of_getElem? (i := 33) rfl)⟩, ix 70 (by decide +kernel), ⟨by decide +kernel, rfl, by decide +kernel, by decide +kernel⟩⟩
set_option maxRecDepth 100000 in
theorem ok_By_hasRoomFor : mOK m_By_hasRoomFor := ⟨Or.inl ⟨rfl, tb_2 _ (List.mem_of_getElem? (i := 168) rfl)⟩, ix 70 (by decide +kernel), ⟨by decide +kernel, rfl, by decide +kernel, by decide +kernel⟩⟩
set_option maxRecDepth 100000 in
theorem ok_By_at : mOK m_By_at := ⟨Or.inl ⟨rfl, tb_1 _ (List.mem_of_getElem? (i := 238) rfl)⟩, ix 70 (by decide +kernel), ⟨by decide +kernel, rfl, by decide +kernel, by decide +kernel⟩⟩
set_option maxRecDepth 100000 in
theorem ok_By_append : mOK m_By_append := ⟨Or.inl ⟨rfl, tb_2 _ (List.mem_of_getElem? (i := 188) rfl)⟩, ix 70 (by decide +kernel), ⟨by decide +kernel, rfl, by decide +kernel, by decide +kernel⟩⟩
set_option maxRecDepth 100000 in
theorem ok_By_markInLast : mOK m_By_markInLast := ⟨Or.inl ⟨rfl, tb_3 _ (List.mem_of_getElem? (i := 234) rfl)⟩, ix 70 (by decide +kernel), ⟨by decide +kernel, rfl, by decide +kernel, by decide +kernel⟩⟩
set_option maxRecDepth 100000 in
theorem ok_By_shortenTo : mOK m_By_shortenTo := ⟨Or.inl ⟨rfl, tb_3 _ (List.mem_of_getElem? (i := 91) rfl)⟩, ix 70 (by decide +kernel), ⟨by decide +kernel, rfl, by decide +kernel, by decide +kernel⟩⟩
set_option maxRecDepth 100000 in
theorem ok_By_forgetAll : mOK m_By_forgetAll := ⟨Or.inl ⟨rfl, tb_1 _ (List.mem_of_getElem? (i := 202) rfl)⟩, ix 70 (by decide +kernel), ⟨by decide +kernel, rfl, by decide +kernel, by decide +kernel⟩⟩
set_option maxRecDepth 100000 in
theorem ok_By_becomeLike : mOK m_By_becomeLike := ⟨Or.inl ⟨rfl, tb_4 _ (List.mem_of_getElem? (i := 111) rfl)⟩, ix 70 (by decide +kernel), ⟨by decide +kernel, rfl, by decide +kernel, by decide +kernel⟩⟩
set_option maxRecDepth 100000 in
theorem ok_Co_init : mOK m_Co_init := ⟨Or.inl ⟨rfl, tb_3 _ (List.mem_of_getElem? (i := 115) rfl)⟩, ix 84 (by decide +kernel), ⟨by decide +kernel, rfl, by decide +kernel, by decide +kernel⟩⟩
set_option maxRecDepth 100000 in
theorem ok_Co_pass : mOK m_Co_pass := ⟨Or.inl ⟨rfl, tb_3 _ (List.mem_of_getElem? (i := 144) rfl)⟩, ix 84 (by decide +kernel), ⟨by decide +kernel, rfl, by decide +kernel, by decide +kernel⟩⟩
set_option maxRecDepth 100000 in
theorem ok_Co_bytesPassed : mOK m_Co_bytesPassed := ⟨Or.inl ⟨rfl, tb_3 _ (List.mem_of_getElem? (i := 173) rfl)⟩, ix 84 (by decide +kernel), ⟨by decide +kernel, rfl, by decide +kernel, by decide +kernel⟩⟩
set_option maxRecDepth 100000 in
theorem ok_Co_passType : mOK m_Co_passType := ⟨Or.inl ⟨rfl, tb_3 _ (List.mem_of_getElem? (i := 149) rfl)⟩, ix 84 (by decide +kernel), ⟨by decide +kernel, rfl, by decide +kernel, by decide +kernel⟩⟩
set_option maxRecDepth 100000 in
theorem ok_Co_passUnit : mOK m_Co_passUnit := ⟨Or.inl ⟨rfl, tb_3 _ (List.mem_of_getElem? (i := 194) rfl)⟩, ix 84 (by decide +kernel), ⟨by decide +kernel, rfl, by decide +kernel, by decide +kernel⟩⟩
set_option maxRecDepth 100000 in
theorem ok_Co_passFields : mOK m_Co_passFields := ⟨Or.inl ⟨rfl, tb_3 _ (List.mem_of_getElem? (i := 153) rfl)⟩, ix 84 (by decide +kernel), ⟨by decide +kernel, rfl, by decide +kernel, by decide +kernel⟩⟩
set_option maxRecDepth 100000 in
theorem ok_Co_passCounted : mOK m_Co_passCounted := ⟨Or.inl ⟨rfl, tb_3 _ (List.mem_of_getElem? (i := 177) rfl)⟩, ix 84 (by decide +kernel), ⟨by decide +kernel, rfl, by decide +kernel, by decide +kernel⟩⟩
set_option maxRecDepth 100000 in
theorem ok_Co_passSized : mOK m_Co_passSized := ⟨Or.inl ⟨rfl, tb_3 _ (List.mem_of_getElem? (i := 185) rfl)⟩, ix 84 (by decide +kernel), ⟨by decide +kernel, rfl, by decide +kernel, by decide +kernel⟩⟩
set_option maxRecDepth 100000 in
theorem ok_Co_passChoice : mOK m_Co_passChoice := ⟨Or.inl ⟨rfl, tb_3 _ (List.mem_of_getElem? (i := 190) rfl)⟩, ix 84 (by decide +kernel), ⟨by decide +kernel, rfl, by decide +kernel, by decide +kernel⟩⟩
set_option maxRecDepth 100000 in
theorem ok_Co_told : mOK m_Co_told := ⟨Or.inl ⟨rfl, tb_3 _ (List.mem_of_getElem? (i := 180) rfl)⟩, ix 84 (by decide +kernel), ⟨by decide +kernel, rfl, by decide +kernel, by decide +kernel⟩⟩
set_option maxRecDepth 100000 in
theorem ok_Fo_init : mOK m_Fo_init := ⟨Or.inl ⟨rfl, tb_1 _ (List.mem_of_getElem? (i := 66) rfl)⟩, ix 72 (by decide +kernel), ⟨by decide +kernel, rfl, by decide +kernel, by decide +kernel⟩⟩
set_option maxRecDepth 100000 in
theorem ok_Fo_forgetAll : mOK m_Fo_forgetAll := ⟨Or.inl ⟨rfl, tb_1 _ (List.mem_of_getElem? (i := 230) rfl)⟩, ix 72 (by decide +kernel), ⟨by decide +kernel, rfl, by decide +kernel, by decide +kernel⟩⟩
set_option maxRecDepth 100000 in
theorem ok_Fo_fresh : mOK m_Fo_fresh := ⟨Or.inl ⟨rfl, tb_2 _ (List.mem_of_getElem? (i := 5) rfl)⟩, ix 72 (by decide +kernel), ⟨by decide +kernel, rfl, by decide +kernel, by decide +kernel⟩⟩
set_option maxRecDepth 100000 in
theorem ok_Fo_whole : mOK m_Fo_whole := ⟨Or.inl ⟨rfl, tb_3 _ (List.mem_of_getElem? (i := 42) rfl)⟩, ix 72 (by decide +kernel), ⟨by decide +kernel, rfl, by decide +kernel, by decide +kernel⟩⟩
set_option maxRecDepth 100000 in
theorem ok_Fo_least : mOK m_Fo_least := ⟨Or.inl ⟨rfl, tb_3 _ (List.mem_of_getElem? (i := 70) rfl)⟩, ix 72 (by decide +kernel), ⟨by decide +kernel, rfl, by decide +kernel, by decide +kernel⟩⟩
set_option maxRecDepth 100000 in
theorem ok_Fo_most : mOK m_Fo_most := ⟨Or.inl ⟨rfl, tb_3 _ (List.mem_of_getElem? (i := 38) rfl)⟩, ix 72 (by decide +kernel), ⟨by decide +kernel, rfl, by decide +kernel, by decide +kernel⟩⟩
set_option maxRecDepth 100000 in
theorem ok_Fo_isSound : mOK m_Fo_isSound := ⟨Or.inl ⟨rfl, tb_2 _ (List.mem_of_getElem? (i := 216) rfl)⟩, ix 72 (by decide +kernel), ⟨by decide +kernel, rfl, by decide +kernel, by decide +kernel⟩⟩
set_option maxRecDepth 100000 in
theorem ok_Fo_isInPlace : mOK m_Fo_isInPlace := ⟨Or.inl ⟨rfl, tb_2 _ (List.mem_of_getElem? (i := 219) rfl)⟩, ix 72 (by decide +kernel), ⟨by decide +kernel, rfl, by decide +kernel, by decide +kernel⟩⟩
set_option maxRecDepth 100000 in
theorem ok_Fo_isLastOfWhole : mOK m_Fo_isLastOfWhole := ⟨Or.inl ⟨rfl, tb_2 _ (List.mem_of_getElem? (i := 226) rfl)⟩, ix 72 (by decide +kernel), ⟨by decide +kernel, rfl, by decide +kernel, by decide +kernel⟩⟩
set_option maxRecDepth 100000 in
theorem ok_Fo_findMeaning : mOK m_Fo_findMeaning := ⟨Or.inl ⟨rfl, tb_2 _ (List.mem_of_getElem? (i := 229) rfl)⟩, ix 72 (by decide +kernel), ⟨by decide +kernel, rfl, by decide +kernel, by decide +kernel⟩⟩
set_option maxRecDepth 100000 in
theorem ok_Fo_fieldMeantIn : mOK m_Fo_fieldMeantIn := ⟨Or.inl ⟨rfl, tb_2 _ (List.mem_of_getElem? (i := 236) rfl)⟩, ix 72 (by decide +kernel), ⟨by decide +kernel, rfl, by decide +kernel, by decide +kernel⟩⟩
set_option maxRecDepth 100000 in
theorem ok_Fo_latestBefore : mOK m_Fo_latestBefore := ⟨Or.inl ⟨rfl, tb_2 _ (List.mem_of_getElem? (i := 239) rfl)⟩, ix 72 (by decide +kernel), ⟨by decide +kernel, rfl, by decide +kernel, by decide +kernel⟩⟩
set_option maxRecDepth 100000 in
theorem ok_Fo_hasGoodFigures : mOK m_Fo_hasGoodFigures := ⟨Or.inl ⟨rfl, tb_3 _ (List.mem_of_getElem? (i := 6) rfl)⟩, ix 72 (by decide +kernel), ⟨by decide +kernel, rfl, by decide +kernel, by decide +kernel⟩⟩
set_option maxRecDepth 100000 in
theorem ok_Fo_measure : mOK m_Fo_measure := ⟨Or.inl ⟨rfl, tb_3 _ (List.mem_of_getElem? (i := 13) rfl)⟩, ix 72 (by decide +kernel), ⟨by decide +kernel, rfl, by decide +kernel, by decide +kernel⟩⟩
set_option maxRecDepth 100000 in
theorem ok_Fo_measureStructure : mOK m_Fo_measureStructure := ⟨Or.inl ⟨rfl, tb_3 _ (List.mem_of_getElem? (i := 16) rfl)⟩, ix 72 (by decide +kernel), ⟨by decide +kernel, rfl, by decide +kernel, by decide +kernel⟩⟩
set_option maxRecDepth 100000 in
theorem ok_Fo_bytesFor : mOK m_Fo_bytesFor := ⟨Or.inl ⟨rfl, tb_3 _ (List.mem_of_getElem? (i := 19) rfl)⟩, ix 72 (by decide +kernel), ⟨by decide +kernel, rfl, by decide +kernel, by decide +kernel⟩⟩
set_option maxRecDepth 100000 in
theorem ok_Fo_measureArray : mOK m_Fo_measureArray := ⟨Or.inl ⟨rfl, tb_3 _ (List.mem_of_getElem? (i := 22) rfl)⟩, ix 72 (by decide +kernel), ⟨by decide +kernel, rfl, by decide +kernel, by decide +kernel⟩⟩
set_option maxRecDepth 100000 in
theorem ok_Fo_measureChoice : mOK m_Fo_measureChoice := ⟨Or.inl ⟨rfl, tb_3 _ (List.mem_of_getElem? (i := 26) rfl)⟩, ix 72 (by decide +kernel), ⟨by decide +kernel, rfl, by decide +kernel, by decide +kernel⟩⟩
set_option maxRecDepth 100000 in
theorem ok_Fo_repeatsFittingly : mOK m_Fo_repeatsFittingly := ⟨Or.inl ⟨rfl, tb_3 _ (List.mem_of_getElem? (i := 33) rfl)⟩, ix 72 (by decide +kernel), ⟨by decide +kernel, rfl, by decide +kernel, by decide +kernel⟩⟩
set_option maxRecDepth 100000 in
theorem ok_Lo_init : mOK m_Lo_init := ⟨Or.inl ⟨rfl, tb_1 _ (List.mem_of_getElem? (i := 50) rfl)⟩, ix 71 (by decide +kernel), ⟨by decide +kernel, rfl, by decide +kernel, by decide +kernel⟩⟩
set_option maxRecDepth 100000 in
theorem ok_Lo_at : mOK m_Lo_at := ⟨Or.inl ⟨rfl, tb_3 _ (List.mem_of_getElem? (i := 225) rfl)⟩, ix 71 (by decide +kernel), ⟨by decide +kernel, rfl, by decide +kernel, by decide +kernel⟩⟩
set_option maxRecDepth 100000 in
theorem ok_Lo_append : mOK m_Lo_append := ⟨Or.inl ⟨rfl, tb_3 _ (List.mem_of_getElem? (i := 209) rfl)⟩, ix 71 (by decide +kernel), ⟨by decide +kernel, rfl, by decide +kernel, by decide +kernel⟩⟩
set_option maxRecDepth 100000 in
theorem ok_Lo_replace : mOK m_Lo_replace := ⟨Or.inl ⟨rfl, tb_4 _ (List.mem_of_getElem? (i := 154) rfl)⟩, ix 71 (by decide +kernel), ⟨by decide +kernel, rfl, by decide +kernel, by decide +kernel⟩⟩
set_option maxRecDepth 100000 in
theorem ok_Lo_takeOut : mOK m_Lo_takeOut := ⟨Or.inl ⟨rfl, tb_4 _ (List.mem_of_getElem? (i := 168) rfl)⟩, ix 71 (by decide +kernel), ⟨by decide +kernel, rfl, by decide +kernel, by decide +kernel⟩⟩
set_option maxRecDepth 100000 in
theorem ok_Lo_forgetAll : mOK m_Lo_forgetAll := ⟨Or.inl ⟨rfl, tb_3 _ (List.mem_of_getElem? (i := 107) rfl)⟩, ix 71 (by decide +kernel), ⟨by decide +kernel, rfl, by decide +kernel, by decide +kernel⟩⟩
set_option maxRecDepth 100000 in
theorem ok_Lo_becomeLike : mOK m_Lo_becomeLike := ⟨Or.inl ⟨rfl, tb_4 _ (List.mem_of_getElem? (i := 68) rfl)⟩, ix 71 (by decide +kernel), ⟨by decide +kernel, rfl, by decide +kernel, by decide +kernel⟩⟩
set_option maxRecDepth 100000 in
theorem ok_No_init : mOK m_No_init := ⟨Or.inl ⟨rfl, tb_1 _ (List.mem_of_getElem? (i := 73) rfl)⟩, ix 73 (by decide +kernel), ⟨by decide +kernel, rfl, by decide +kernel, by decide +kernel⟩⟩
set_option maxRecDepth 100000 in
theorem ok_No_become : mOK m_No_become := ⟨Or.inl ⟨rfl, tb_2 _ (List.mem_of_getElem? (i := 9) rfl)⟩, ix 73 (by decide +kernel), ⟨by decide +kernel, rfl, by decide +kernel, by decide +kernel⟩⟩
set_option maxRecDepth 100000 in
theorem ok_No_addPart : mOK m_No_addPart := ⟨Or.inl ⟨rfl, tb_2 _ (List.mem_of_getElem? (i := 37) rfl)⟩, ix 73 (by decide +kernel), ⟨by decide +kernel, rfl, by decide +kernel, by decide +kernel⟩⟩
set_option maxRecDepth 100000 in
theorem ok_No_isPartOf : mOK m_No_isPartOf := ⟨Or.inl ⟨rfl, tb_2 _ (List.mem_of_getElem? (i := 223) rfl)⟩, ix 73 (by decide +kernel), ⟨by decide +kernel, rfl, by decide +kernel, by decide +kernel⟩⟩
set_option maxRecDepth 100000 in
theorem ok_No_mayBeNegative : mOK m_No_mayBeNegative := ⟨Or.inl ⟨rfl, tb_2 _ (List.mem_of_getElem? (i := 68) rfl)⟩, ix 73 (by decide +kernel), ⟨by decide +kernel, rfl, by decide +kernel, by decide +kernel⟩⟩
set_option maxRecDepth 100000 in
theorem ok_No_canBeMeant : mOK m_No_canBeMeant := ⟨Or.inl ⟨rfl, tb_3 _ (List.mem_of_getElem? (i := 3) rfl)⟩, ix 73 (by decide +kernel), ⟨by decide +kernel, rfl, by decide +kernel, by decide +kernel⟩⟩
set_option maxRecDepth 100000 in
theorem ok_No_hasKey : mOK m_No_hasKey := ⟨Or.inl ⟨rfl, tb_2 _ (List.mem_of_getElem? (i := 233) rfl)⟩, ix 73 (by decide +kernel), ⟨by decide +kernel, rfl, by decide +kernel, by decide +kernel⟩⟩
set_option maxRecDepth 100000 in
theorem ok_No_widenTo : mOK m_No_widenTo := ⟨Or.inl ⟨rfl, tb_2 _ (List.mem_of_getElem? (i := 64) rfl)⟩, ix 73 (by decide +kernel), ⟨by decide +kernel, rfl, by decide +kernel, by decide +kernel⟩⟩
set_option maxRecDepth 100000 in
theorem ok_No_limitTo : mOK m_No_limitTo := ⟨Or.inl ⟨rfl, tb_2 _ (List.mem_of_getElem? (i := 77) rfl)⟩, ix 73 (by decide +kernel), ⟨by decide +kernel, rfl, by decide +kernel, by decide +kernel⟩⟩
set_option maxRecDepth 100000 in
theorem ok_No_holds : mOK m_No_holds := ⟨Or.inl ⟨rfl, tb_3 _ (List.mem_of_getElem? (i := 10) rfl)⟩, ix 73 (by decide +kernel), ⟨by decide +kernel, rfl, by decide +kernel, by decide +kernel⟩⟩
set_option maxRecDepth 100000 in
theorem ok_Pa_init : mOK m_Pa_init := ⟨Or.inl ⟨rfl, tb_1 _ (List.mem_of_getElem? (i := 211) rfl)⟩, ix 80 (by decide +kernel), ⟨by decide +kernel, rfl, by decide +kernel, by decide +kernel⟩⟩
set_option maxRecDepth 100000 in
theorem ok_Pa_parse : mOK m_Pa_parse := ⟨Or.inl ⟨rfl, tb_1 _ (List.mem_of_getElem? (i := 226) rfl)⟩, ix 80 (by decide +kernel), ⟨by decide +kernel, rfl, by decide +kernel, by decide +kernel⟩⟩
set_option maxRecDepth 100000 in
theorem ok_Pa_passType : mOK m_Pa_passType := ⟨Or.inl ⟨rfl, tb_1 _ (List.mem_of_getElem? (i := 234) rfl)⟩, ix 80 (by decide +kernel), ⟨by decide +kernel, rfl, by decide +kernel, by decide +kernel⟩⟩
set_option maxRecDepth 100000 in
theorem ok_Pa_beginsType : mOK m_Pa_beginsType := ⟨Or.inl ⟨rfl, tb_2 _ (List.mem_of_getElem? (i := 1) rfl)⟩, ix 80 (by decide +kernel), ⟨by decide +kernel, rfl, by decide +kernel, by decide +kernel⟩⟩
set_option maxRecDepth 100000 in
theorem ok_Pa_passTail : mOK m_Pa_passTail := ⟨Or.inl ⟨rfl, tb_2 _ (List.mem_of_getElem? (i := 13) rfl)⟩, ix 80 (by decide +kernel), ⟨by decide +kernel, rfl, by decide +kernel, by decide +kernel⟩⟩
set_option maxRecDepth 100000 in
theorem ok_Pa_passPart : mOK m_Pa_passPart := ⟨Or.inl ⟨rfl, tb_2 _ (List.mem_of_getElem? (i := 33) rfl)⟩, ix 80 (by decide +kernel), ⟨by decide +kernel, rfl, by decide +kernel, by decide +kernel⟩⟩
set_option maxRecDepth 100000 in
theorem ok_Pa_passFields : mOK m_Pa_passFields := ⟨Or.inl ⟨rfl, tb_2 _ (List.mem_of_getElem? (i := 17) rfl)⟩, ix 80 (by decide +kernel), ⟨by decide +kernel, rfl, by decide +kernel, by decide +kernel⟩⟩
set_option maxRecDepth 100000 in
theorem ok_Pa_passField : mOK m_Pa_passField := ⟨Or.inl ⟨rfl, tb_2 _ (List.mem_of_getElem? (i := 25) rfl)⟩, ix 80 (by decide +kernel), ⟨by decide +kernel, rfl, by decide +kernel, by decide +kernel⟩⟩
set_option maxRecDepth 100000 in
theorem ok_Pa_passCases : mOK m_Pa_passCases := ⟨Or.inl ⟨rfl, tb_2 _ (List.mem_of_getElem? (i := 45) rfl)⟩, ix 80 (by decide +kernel), ⟨by decide +kernel, rfl, by decide +kernel, by decide +kernel⟩⟩
set_option maxRecDepth 100000 in
theorem ok_Pa_passCase : mOK m_Pa_passCase := ⟨Or.inl ⟨rfl, tb_2 _ (List.mem_of_getElem? (i := 49) rfl)⟩, ix 80 (by decide +kernel), ⟨by decide +kernel, rfl, by decide +kernel, by decide +kernel⟩⟩
set_option maxRecDepth 100000 in
theorem ok_Pa_passKey : mOK m_Pa_passKey := ⟨Or.inl ⟨rfl, tb_2 _ (List.mem_of_getElem? (i := 41) rfl)⟩, ix 80 (by decide +kernel), ⟨by decide +kernel, rfl, by decide +kernel, by decide +kernel⟩⟩
set_option maxRecDepth 100000 in
theorem ok_Pa_passWidth : mOK m_Pa_passWidth := ⟨Or.inl ⟨rfl, tb_2 _ (List.mem_of_getElem? (i := 60) rfl)⟩, ix 80 (by decide +kernel), ⟨by decide +kernel, rfl, by decide +kernel, by decide +kernel⟩⟩
set_option maxRecDepth 100000 in
theorem ok_Pa_passLimit : mOK m_Pa_passLimit := ⟨Or.inl ⟨rfl, tb_2 _ (List.mem_of_getElem? (i := 73) rfl)⟩, ix 80 (by decide +kernel), ⟨by decide +kernel, rfl, by decide +kernel, by decide +kernel⟩⟩
set_option maxRecDepth 100000 in
theorem ok_Pa_passFigure : mOK m_Pa_passFigure := ⟨Or.inl ⟨rfl, tb_2 _ (List.mem_of_getElem? (i := 53) rfl)⟩, ix 80 (by decide +kernel), ⟨by decide +kernel, rfl, by decide +kernel, by decide +kernel⟩⟩
set_option maxRecDepth 100000 in
theorem ok_Pa_passName : mOK m_Pa_passName := ⟨Or.inl ⟨rfl, tb_2 _ (List.mem_of_getElem? (i := 29) rfl)⟩, ix 80 (by decide +kernel), ⟨by decide +kernel, rfl, by decide +kernel, by decide +kernel⟩⟩
set_option maxRecDepth 100000 in
theorem ok_Pa_passSign : mOK m_Pa_passSign := ⟨Or.inl ⟨rfl, tb_2 _ (List.mem_of_getElem? (i := 21) rfl)⟩, ix 80 (by decide +kernel), ⟨by decide +kernel, rfl, by decide +kernel, by decide +kernel⟩⟩
set_option maxRecDepth 100000 in
theorem ok_Re_init : mOK m_Re_init := ⟨Or.inl ⟨rfl, tb_3 _ (List.mem_of_getElem? (i := 112) rfl)⟩, ix 85 (by decide +kernel), ⟨by decide +kernel, rfl, by decide +kernel, by decide +kernel⟩⟩
set_option maxRecDepth 100000 in
theorem ok_Re_passNumber : mOK m_Re_passNumber := ⟨Or.inl ⟨rfl, tb_4 _ (List.mem_of_getElem? (i := 36) rfl)⟩, ix 85 (by decide +kernel), ⟨by decide +kernel, rfl, by decide +kernel, by decide +kernel⟩⟩
set_option maxRecDepth 100000 in
theorem ok_Re_passBits : mOK m_Re_passBits := ⟨Or.inl ⟨rfl, tb_3 _ (List.mem_of_getElem? (i := 200) rfl)⟩, ix 85 (by decide +kernel), ⟨by decide +kernel, rfl, by decide +kernel, by decide +kernel⟩⟩
set_option maxRecDepth 100000 in
theorem ok_Re_passWords : mOK m_Re_passWords := ⟨Or.inl ⟨rfl, tb_4 _ (List.mem_of_getElem? (i := 0) rfl)⟩, ix 85 (by decide +kernel), ⟨by decide +kernel, rfl, by decide +kernel, by decide +kernel⟩⟩
set_option maxRecDepth 100000 in
theorem ok_Re_passRest : mOK m_Re_passRest := ⟨Or.inl ⟨rfl, tb_4 _ (List.mem_of_getElem? (i := 26) rfl)⟩, ix 85 (by decide +kernel), ⟨by decide +kernel, rfl, by decide +kernel, by decide +kernel⟩⟩
set_option maxRecDepth 100000 in
theorem ok_Re_passSpare : mOK m_Re_passSpare := ⟨Or.inl ⟨rfl, tb_3 _ (List.mem_of_getElem? (i := 159) rfl)⟩, ix 85 (by decide +kernel), ⟨by decide +kernel, rfl, by decide +kernel, by decide +kernel⟩⟩
set_option maxRecDepth 100000 in
theorem ok_Re_nextBit : mOK m_Re_nextBit := ⟨Or.inl ⟨rfl, tb_3 _ (List.mem_of_getElem? (i := 163) rfl)⟩, ix 85 (by decide +kernel), ⟨by decide +kernel, rfl, by decide +kernel, by decide +kernel⟩⟩
set_option maxRecDepth 100000 in
theorem ok_Re_keep : mOK m_Re_keep := ⟨Or.inl ⟨rfl, tb_3 _ (List.mem_of_getElem? (i := 204) rfl)⟩, ix 85 (by decide +kernel), ⟨by decide +kernel, rfl, by decide +kernel, by decide +kernel⟩⟩
set_option maxRecDepth 100000 in
theorem ok_Re_keepBytes : mOK m_Re_keepBytes := ⟨Or.inl ⟨rfl, tb_4 _ (List.mem_of_getElem? (i := 7) rfl)⟩, ix 85 (by decide +kernel), ⟨by decide +kernel, rfl, by decide +kernel, by decide +kernel⟩⟩
set_option maxRecDepth 100000 in
theorem ok_Wr_init : mOK m_Wr_init := ⟨Or.inl ⟨rfl, tb_4 _ (List.mem_of_getElem? (i := 85) rfl)⟩, ix 88 (by decide +kernel), ⟨by decide +kernel, rfl, by decide +kernel, by decide +kernel⟩⟩
set_option maxRecDepth 100000 in
theorem ok_Wr_passNumber : mOK m_Wr_passNumber := ⟨Or.inl ⟨rfl, tb_4 _ (List.mem_of_getElem? (i := 40) rfl)⟩, ix 88 (by decide +kernel), ⟨by decide +kernel, rfl, by decide +kernel, by decide +kernel⟩⟩
set_option maxRecDepth 100000 in
theorem ok_Wr_passBits : mOK m_Wr_passBits := ⟨Or.inl ⟨rfl, tb_3 _ (List.mem_of_getElem? (i := 212) rfl)⟩, ix 88 (by decide +kernel), ⟨by decide +kernel, rfl, by decide +kernel, by decide +kernel⟩⟩
set_option maxRecDepth 100000 in
theorem ok_Wr_passWords : mOK m_Wr_passWords := ⟨Or.inl ⟨rfl, tb_4 _ (List.mem_of_getElem? (i := 10) rfl)⟩, ix 88 (by decide +kernel), ⟨by decide +kernel, rfl, by decide +kernel, by decide +kernel⟩⟩
set_option maxRecDepth 100000 in
theorem ok_Wr_passRest : mOK m_Wr_passRest := ⟨Or.inl ⟨rfl, tb_4 _ (List.mem_of_getElem? (i := 29) rfl)⟩, ix 88 (by decide +kernel), ⟨by decide +kernel, rfl, by decide +kernel, by decide +kernel⟩⟩
set_option maxRecDepth 100000 in
theorem ok_Wr_passSpare : mOK m_Wr_passSpare := ⟨Or.inl ⟨rfl, tb_3 _ (List.mem_of_getElem? (i := 167) rfl)⟩, ix 88 (by decide +kernel), ⟨by decide +kernel, rfl, by decide +kernel, by decide +kernel⟩⟩
set_option maxRecDepth 100000 in
theorem ok_Wr_takeFor : mOK m_Wr_takeFor := ⟨Or.inl ⟨rfl, tb_3 _ (List.mem_of_getElem? (i := 217) rfl)⟩, ix 88 (by decide +kernel), ⟨by decide +kernel, rfl, by decide +kernel, by decide +kernel⟩⟩
set_option maxRecDepth 100000 in
theorem ok_Wr_take : mOK m_Wr_take := ⟨Or.inl ⟨rfl, tb_3 _ (List.mem_of_getElem? (i := 221) rfl)⟩, ix 88 (by decide +kernel), ⟨by decide +kernel, rfl, by decide +kernel, by decide +kernel⟩⟩
set_option maxRecDepth 100000 in
theorem ok_Wr_makeBytes : mOK m_Wr_makeBytes := ⟨Or.inl ⟨rfl, tb_4 _ (List.mem_of_getElem? (i := 15) rfl)⟩, ix 88 (by decide +kernel), ⟨by decide +kernel, rfl, by decide +kernel, by decide +kernel⟩⟩
set_option maxRecDepth 100000 in
theorem ok_Wr_make : mOK m_Wr_make := ⟨Or.inl ⟨rfl, tb_4 _ (List.mem_of_getElem? (i := 20) rfl)⟩, ix 88 (by decide +kernel), ⟨by decide +kernel, rfl, by decide +kernel, by decide +kernel⟩⟩
set_option maxRecDepth 100000 in
theorem ok_Wr_makeBit : mOK m_Wr_makeBit := ⟨Or.inl ⟨rfl, tb_3 _ (List.mem_of_getElem? (i := 229) rfl)⟩, ix 88 (by decide +kernel), ⟨by decide +kernel, rfl, by decide +kernel, by decide +kernel⟩⟩
set_option maxRecDepth 100000 in
theorem ok_La_type : mOK m_La_type := ⟨Or.inr ⟨⟨rfl, rfl⟩, by decide +kernel, tb_2 _ (List.mem_of_getElem? (i := 86) rfl)⟩, ix 68 (by decide +kernel), ⟨by decide +kernel, rfl, by decide +kernel, by decide +kernel⟩⟩
set_option maxRecDepth 100000 in
theorem ok_La_compile : mOK m_La_compile := ⟨Or.inr ⟨⟨rfl, rfl⟩, by decide +kernel, tb_2 _ (List.mem_of_getElem? (i := 191) rfl)⟩, ix 68 (by decide +kernel), ⟨by decide +kernel, rfl, by decide +kernel, by decide +kernel⟩⟩
set_option maxRecDepth 100000 in
theorem ok_La_size : mOK m_La_size := ⟨Or.inr ⟨⟨rfl, rfl⟩, by decide +kernel, tb_3 _ (List.mem_of_getElem? (i := 45) rfl)⟩, ix 68 (by decide +kernel), ⟨by decide +kernel, rfl, by decide +kernel, by decide +kernel⟩⟩
set_option maxRecDepth 100000 in
theorem ok_La_put : mOK m_La_put := ⟨Or.inr ⟨⟨rfl, rfl⟩, by decide +kernel, tb_3 _ (List.mem_of_getElem? (i := 73) rfl)⟩, ix 68 (by decide +kernel), ⟨by decide +kernel, rfl, by decide +kernel, by decide +kernel⟩⟩
set_option maxRecDepth 100000 in
theorem ok_La_cut : mOK m_La_cut := ⟨Or.inr ⟨⟨rfl, rfl⟩, by decide +kernel, tb_3 _ (List.mem_of_getElem? (i := 82) rfl)⟩, ix 68 (by decide +kernel), ⟨by decide +kernel, rfl, by decide +kernel, by decide +kernel⟩⟩
set_option maxRecDepth 100000 in
theorem ok_La_read : mOK m_La_read := ⟨Or.inr ⟨⟨rfl, rfl⟩, by decide +kernel, tb_3 _ (List.mem_of_getElem? (i := 94) rfl)⟩, ix 68 (by decide +kernel), ⟨by decide +kernel, rfl, by decide +kernel, by decide +kernel⟩⟩
set_option maxRecDepth 100000 in
theorem ok_La_write : mOK m_La_write := ⟨Or.inr ⟨⟨rfl, rfl⟩, by decide +kernel, tb_4 _ (List.mem_of_getElem? (i := 77) rfl)⟩, ix 68 (by decide +kernel), ⟨by decide +kernel, rfl, by decide +kernel, by decide +kernel⟩⟩
set_option maxRecDepth 100000 in
theorem ok_La_value : mOK m_La_value := ⟨Or.inr ⟨⟨rfl, rfl⟩, by decide +kernel, tb_4 _ (List.mem_of_getElem? (i := 116) rfl)⟩, ix 68 (by decide +kernel), ⟨by decide +kernel, rfl, by decide +kernel, by decide +kernel⟩⟩
set_option maxRecDepth 100000 in
theorem ok_La_real : mOK m_La_real := ⟨Or.inr ⟨⟨rfl, rfl⟩, by decide +kernel, tb_4 _ (List.mem_of_getElem? (i := 129) rfl)⟩, ix 68 (by decide +kernel), ⟨by decide +kernel, rfl, by decide +kernel, by decide +kernel⟩⟩
set_option maxRecDepth 100000 in
theorem ok_La_set : mOK m_La_set := ⟨Or.inr ⟨⟨rfl, rfl⟩, by decide +kernel, tb_4 _ (List.mem_of_getElem? (i := 145) rfl)⟩, ix 68 (by decide +kernel), ⟨by decide +kernel, rfl, by decide +kernel, by decide +kernel⟩⟩
set_option maxRecDepth 100000 in
theorem ok_La_drop : mOK m_La_drop := ⟨Or.inr ⟨⟨rfl, rfl⟩, by decide +kernel, tb_4 _ (List.mem_of_getElem? (i := 159) rfl)⟩, ix 68 (by decide +kernel), ⟨by decide +kernel, rfl, by decide +kernel, by decide +kernel⟩⟩
set_option maxRecDepth 100000 in
theorem ok_La_byteAt : mOK m_La_byteAt := ⟨Or.inr ⟨⟨rfl, rfl⟩, by decide +kernel, tb_4 _ (List.mem_of_getElem? (i := 171) rfl)⟩, ix 68 (by decide +kernel), ⟨by decide +kernel, rfl, by decide +kernel, by decide +kernel⟩⟩
set_option maxRecDepth 100000 in
theorem ok_La_count : mOK m_La_count := ⟨Or.inr ⟨⟨rfl, rfl⟩, by decide +kernel, tb_4 _ (List.mem_of_getElem? (i := 180) rfl)⟩, ix 68 (by decide +kernel), ⟨by decide +kernel, rfl, by decide +kernel, by decide +kernel⟩⟩
theorem so_0_1 : sOK 0 1 (3, 1, []) := ix 102 (by decide +kernel)
theorem so_0_17 : sOK 0 17 (7, 2, []) := ix 900 (by decide +kernel)
theorem so_0_23 : sOK 0 23 (4, 5, []) := ix 901 (by decide +kernel)
theorem so_0 : ∀ e ∈ cal_0, sOK 0 e.1 e.2 := fa_cons so_0_1 (fa_cons so_0_17 (fa_cons so_0_23 (fa_nil)))
theorem so_1_1 : sOK 1 1 (3, 1, []) := ix 119 (by decide +kernel)
theorem so_1_17 : sOK 1 17 (4, 5, []) := ix 860 (by decide +kernel)
theorem so_1_23 : sOK 1 23 (7, 2, []) := ix 857 (by decide +kernel)
theorem so_1 : ∀ e ∈ cal_1, sOK 1 e.1 e.2 := fa_cons so_1_1 (fa_cons so_1_17 (fa_cons so_1_23 (fa_nil)))
theorem so_2_3 : sOK 2 3 (3, 1, []) := ix 142 (by decide +kernel)
theorem so_2_62 : sOK 2 62 (2, 1, [(2, m_No_mayBeNegative)]) := fa_cons (⟨ix 373 (by decide +kernel), ix 374 (by decide +kernel), ix 375 (by decide +kernel), ⟨_, rfl, by decide +kernel⟩, ⟨by decide, rfl⟩, ok_No_mayBeNegative⟩) (fa_nil)
theorem so_2_68 : sOK 2 68 (8, 2, []) := ix 386 (by decide +kernel)
theorem so_2_74 : sOK 2 74 (9, 2, []) := ix 389 (by decide +kernel)
theorem so_2 : ∀ e ∈ cal_2, sOK 2 e.1 e.2 := fa_cons so_2_3 (fa_cons so_2_62 (fa_cons so_2_68 (fa_cons so_2_74 (fa_nil))))
theorem so_3_3 : sOK 3 3 (3, 1, []) := ix 135 (by decide +kernel)
theorem so_3_17 : sOK 3 17 (1, 1, [(2, m_No_init)]) := fa_cons (⟨Or.inr ⟨"FormatForge", ix 139 (by decide +kernel)⟩, ix 140 (by decide +kernel), ⟨_, rfl, by decide +kernel⟩, ⟨rfl, rfl⟩, ok_No_init⟩) (fa_nil)
theorem so_3_22 : sOK 3 22 (2, 4, [(2, m_No_become)]) := fa_cons (⟨ix 314 (by decide +kernel), ix 315 (by decide +kernel), ix 316 (by decide +kernel), ⟨_, rfl, by decide +kernel⟩, ⟨by decide, rfl⟩, ok_No_become⟩) (fa_nil)
theorem so_3_26 : sOK 3 26 (2, 1, [(3, m_Fo_whole)]) := fa_cons (⟨ix 587 (by decide +kernel), ix 588 (by decide +kernel), ix 589 (by decide +kernel), ⟨_, rfl, by decide +kernel⟩, ⟨by decide, rfl⟩, ok_Fo_whole⟩) (fa_nil)
theorem so_3_37 : sOK 3 37 (0, 1, [(0, m_Fo_isInPlace)]) := fa_cons (⟨Or.inl (ix 525 (by decide +kernel)), ix 526 (by decide +kernel), by decide +kernel, ok_Fo_isInPlace⟩) (fa_nil)
theorem so_3_47 : sOK 3 47 (0, 1, [(0, m_Fo_findMeaning)]) := fa_cons (⟨Or.inl (ix 535 (by decide +kernel)), ix 536 (by decide +kernel), by decide +kernel, ok_Fo_findMeaning⟩) (fa_nil)
theorem so_3_50 : sOK 3 50 (0, 1, [(0, m_Fo_measure)]) := fa_cons (⟨Or.inl (ix 559 (by decide +kernel)), ix 560 (by decide +kernel), by decide +kernel, ok_Fo_measure⟩) (fa_nil)
theorem so_3_56 : sOK 3 56 (0, 1, [(0, m_Fo_repeatsFittingly)]) := fa_cons (⟨Or.inl (ix 579 (by decide +kernel)), ix 580 (by decide +kernel), by decide +kernel, ok_Fo_repeatsFittingly⟩) (fa_nil)
theorem so_3_62 : sOK 3 62 (2, 2, [(2, m_No_isPartOf)]) := fa_cons (⟨ix 528 (by decide +kernel), ix 529 (by decide +kernel), ix 530 (by decide +kernel), ⟨_, rfl, by decide +kernel⟩, ⟨by decide, rfl⟩, ok_No_isPartOf⟩) (fa_nil)
theorem so_3_70 : sOK 3 70 (0, 1, [(0, m_Fo_isLastOfWhole)]) := fa_cons (⟨Or.inl (ix 532 (by decide +kernel)), ix 533 (by decide +kernel), by decide +kernel, ok_Fo_isLastOfWhole⟩) (fa_nil)
theorem so_3_76 : sOK 3 76 (2, 1, [(2, m_No_hasKey)]) := fa_cons (⟨ix 538 (by decide +kernel), ix 539 (by decide +kernel), ix 540 (by decide +kernel), ⟨_, rfl, by decide +kernel⟩, ⟨by decide, rfl⟩, ok_No_hasKey⟩) (fa_nil)
theorem so_3_80 : sOK 3 80 (0, 1, [(0, m_Fo_fieldMeantIn)]) := fa_cons (⟨Or.inl (ix 542 (by decide +kernel)), ix 543 (by decide +kernel), by decide +kernel, ok_Fo_fieldMeantIn⟩) (fa_nil)
theorem so_3_87 : sOK 3 87 (0, 1, [(0, m_Fo_hasGoodFigures)]) := fa_cons (⟨Or.inl (ix 552 (by decide +kernel)), ix 553 (by decide +kernel), by decide +kernel, ok_Fo_hasGoodFigures⟩) (fa_nil)
theorem so_3_93 : sOK 3 93 (0, 2, [(0, m_Fo_latestBefore)]) := fa_cons (⟨Or.inl (ix 545 (by decide +kernel)), ix 546 (by decide +kernel), by decide +kernel, ok_Fo_latestBefore⟩) (fa_nil)
theorem so_3_103 : sOK 3 103 (2, 1, [(2, m_No_canBeMeant)]) := fa_cons (⟨ix 548 (by decide +kernel), ix 549 (by decide +kernel), ix 550 (by decide +kernel), ⟨_, rfl, by decide +kernel⟩, ⟨by decide, rfl⟩, ok_No_canBeMeant⟩) (fa_nil)
theorem so_3_112 : sOK 3 112 (2, 2, [(2, m_No_holds)]) := fa_cons (⟨ix 555 (by decide +kernel), ix 556 (by decide +kernel), ix 557 (by decide +kernel), ⟨_, rfl, by decide +kernel⟩, ⟨by decide, rfl⟩, ok_No_holds⟩) (fa_nil)
theorem so_3_116 : sOK 3 116 (0, 1, [(0, m_Fo_measureStructure)]) := fa_cons (⟨Or.inl (ix 562 (by decide +kernel)), ix 563 (by decide +kernel), by decide +kernel, ok_Fo_measureStructure⟩) (fa_nil)
theorem so_3_119 : sOK 3 119 (0, 1, [(0, m_Fo_measureArray)]) := fa_cons (⟨Or.inl (ix 568 (by decide +kernel)), ix 569 (by decide +kernel), by decide +kernel, ok_Fo_measureArray⟩) (fa_nil)
theorem so_3_122 : sOK 3 122 (0, 1, [(0, m_Fo_measureChoice)]) := fa_cons (⟨Or.inl (ix 572 (by decide +kernel)), ix 573 (by decide +kernel), by decide +kernel, ok_Fo_measureChoice⟩) (fa_nil)
theorem so_3_132 : sOK 3 132 (0, 1, [(0, m_Fo_bytesFor)]) := fa_cons (⟨Or.inl (ix 565 (by decide +kernel)), ix 566 (by decide +kernel), by decide +kernel, ok_Fo_bytesFor⟩) (fa_nil)
theorem so_3_136 : sOK 3 136 (8, 2, []) := ix 571 (by decide +kernel)
theorem so_3_142 : sOK 3 142 (9, 2, []) := ix 576 (by decide +kernel)
theorem so_3 : ∀ e ∈ cal_3, sOK 3 e.1 e.2 := fa_cons so_3_3 (fa_cons so_3_17 (fa_cons so_3_22 (fa_cons so_3_26 (fa_cons so_3_37 (fa_cons so_3_47 (fa_cons so_3_50 (fa_cons so_3_56 (fa_cons so_3_62 (fa_cons so_3_70 (fa_cons so_3_76 (fa_cons so_3_80 (fa_cons so_3_87 (fa_cons so_3_93 (fa_cons so_3_103 (fa_cons so_3_112 (fa_cons so_3_116 (fa_cons so_3_119 (fa_cons so_3_122 (fa_cons so_3_132 (fa_cons so_3_136 (fa_cons so_3_142 (fa_nil))))))))))))))))))))))
theorem so_4_3 : sOK 4 3 (3, 1, []) := ix 280 (by decide +kernel)
theorem so_4_23 : sOK 4 23 (2, 1, [(3, m_Fo_forgetAll)]) := fa_cons (⟨ix 295 (by decide +kernel), ix 296 (by decide +kernel), ix 297 (by decide +kernel), ⟨_, rfl, by decide +kernel⟩, ⟨by decide, rfl⟩, ok_Fo_forgetAll⟩) (fa_nil)
theorem so_4_28 : sOK 4 28 (2, 4, [(4, m_Pa_passType)]) := fa_cons (⟨ix 299 (by decide +kernel), ix 301 (by decide +kernel), ix 0 (by decide +kernel), ⟨_, rfl, by decide +kernel⟩, ⟨by decide, rfl⟩, ok_Pa_passType⟩) (fa_nil)
theorem so_4_37 : sOK 4 37 (2, 2, [(0, m_By_at)]) := fa_cons (⟨ix 303 (by decide +kernel), ix 304 (by decide +kernel), ix 305 (by decide +kernel), ⟨_, rfl, by decide +kernel⟩, ⟨by decide, rfl⟩, ok_By_at⟩) (fa_nil)
theorem so_4_41 : sOK 4 41 (0, 2, [(0, m_Pa_beginsType)]) := fa_cons (⟨Or.inl (ix 307 (by decide +kernel)), ix 308 (by decide +kernel), by decide +kernel, ok_Pa_beginsType⟩) (fa_nil)
theorem so_4_45 : sOK 4 45 (2, 4, [(3, m_Fo_fresh)]) := fa_cons (⟨ix 310 (by decide +kernel), ix 311 (by decide +kernel), ix 312 (by decide +kernel), ⟨_, rfl, by decide +kernel⟩, ⟨by decide, rfl⟩, ok_Fo_fresh⟩) (fa_nil)
theorem so_4_49 : sOK 4 49 (2, 3, [(4, m_Pa_passTail)]) := fa_cons (⟨ix 318 (by decide +kernel), ix 320 (by decide +kernel), ix 1 (by decide +kernel), ⟨_, rfl, by decide +kernel⟩, ⟨by decide, rfl⟩, ok_Pa_passTail⟩) (fa_nil)
theorem so_4_58 : sOK 4 58 (2, 3, [(4, m_Pa_passFields)]) := fa_cons (⟨ix 322 (by decide +kernel), ix 324 (by decide +kernel), ix 2 (by decide +kernel), ⟨_, rfl, by decide +kernel⟩, ⟨by decide, rfl⟩, ok_Pa_passFields⟩) (fa_nil)
theorem so_4_61 : sOK 4 61 (2, 2, [(4, m_Pa_passKey)]) := fa_cons (⟨ix 346 (by decide +kernel), ix 348 (by decide +kernel), ix 7 (by decide +kernel), ⟨_, rfl, by decide +kernel⟩, ⟨by decide, rfl⟩, ok_Pa_passKey⟩) (fa_nil)
theorem so_4_68 : sOK 4 68 (2, 4, [(4, m_Pa_passPart)]) := fa_cons (⟨ix 338 (by decide +kernel), ix 340 (by decide +kernel), ix 6 (by decide +kernel), ⟨_, rfl, by decide +kernel⟩, ⟨by decide, rfl⟩, ok_Pa_passPart⟩) (fa_nil)
theorem so_4_71 : sOK 4 71 (2, 2, [(4, m_Pa_passSign)]) := fa_cons (⟨ix 326 (by decide +kernel), ix 328 (by decide +kernel), ix 3 (by decide +kernel), ⟨_, rfl, by decide +kernel⟩, ⟨by decide, rfl⟩, ok_Pa_passSign⟩) (fa_nil)
theorem so_4_75 : sOK 4 75 (2, 3, [(4, m_Pa_passCases)]) := fa_cons (⟨ix 350 (by decide +kernel), ix 352 (by decide +kernel), ix 8 (by decide +kernel), ⟨_, rfl, by decide +kernel⟩, ⟨by decide, rfl⟩, ok_Pa_passCases⟩) (fa_nil)
theorem so_4_78 : sOK 4 78 (2, 3, [(4, m_Pa_passWidth)]) := fa_cons (⟨ix 365 (by decide +kernel), ix 367 (by decide +kernel), ix 11 (by decide +kernel), ⟨_, rfl, by decide +kernel⟩, ⟨by decide, rfl⟩, ok_Pa_passWidth⟩) (fa_nil)
theorem so_4_81 : sOK 4 81 (2, 2, [(4, m_Pa_passLimit)]) := fa_cons (⟨ix 378 (by decide +kernel), ix 380 (by decide +kernel), ix 12 (by decide +kernel), ⟨_, rfl, by decide +kernel⟩, ⟨by decide, rfl⟩, ok_Pa_passLimit⟩) (fa_nil)
theorem so_4_84 : sOK 4 84 (2, 2, [(2, m_No_widenTo)]) := fa_cons (⟨ix 369 (by decide +kernel), ix 370 (by decide +kernel), ix 371 (by decide +kernel), ⟨_, rfl, by decide +kernel⟩, ⟨by decide, rfl⟩, ok_No_widenTo⟩) (fa_nil)
theorem so_4_88 : sOK 4 88 (2, 2, [(2, m_No_addPart)]) := fa_cons (⟨ix 342 (by decide +kernel), ix 343 (by decide +kernel), ix 344 (by decide +kernel), ⟨_, rfl, by decide +kernel⟩, ⟨by decide, rfl⟩, ok_No_addPart⟩) (fa_nil)
theorem so_4_92 : sOK 4 92 (2, 3, [(4, m_Pa_passField)]) := fa_cons (⟨ix 330 (by decide +kernel), ix 332 (by decide +kernel), ix 4 (by decide +kernel), ⟨_, rfl, by decide +kernel⟩, ⟨by decide, rfl⟩, ok_Pa_passField⟩) (fa_nil)
theorem so_4_95 : sOK 4 95 (2, 1, [(4, m_Pa_passName)]) := fa_cons (⟨ix 334 (by decide +kernel), ix 336 (by decide +kernel), ix 5 (by decide +kernel), ⟨_, rfl, by decide +kernel⟩, ⟨by decide, rfl⟩, ok_Pa_passName⟩) (fa_nil)
theorem so_4_99 : sOK 4 99 (2, 3, [(4, m_Pa_passCase)]) := fa_cons (⟨ix 354 (by decide +kernel), ix 356 (by decide +kernel), ix 9 (by decide +kernel), ⟨_, rfl, by decide +kernel⟩, ⟨by decide, rfl⟩, ok_Pa_passCase⟩) (fa_nil)
theorem so_4_102 : sOK 4 102 (2, 1, [(4, m_Pa_passFigure)]) := fa_cons (⟨ix 358 (by decide +kernel), ix 360 (by decide +kernel), ix 10 (by decide +kernel), ⟨_, rfl, by decide +kernel⟩, ⟨by decide, rfl⟩, ok_Pa_passFigure⟩) (fa_nil)
theorem so_4_111 : sOK 4 111 (2, 3, [(2, m_No_limitTo)]) := fa_cons (⟨ix 382 (by decide +kernel), ix 383 (by decide +kernel), ix 384 (by decide +kernel), ⟨_, rfl, by decide +kernel⟩, ⟨by decide, rfl⟩, ok_No_limitTo⟩) (fa_nil)
theorem so_4_115 : sOK 4 115 (6, 2, []) := ix 362 (by decide +kernel)
theorem so_4 : ∀ e ∈ cal_4, sOK 4 e.1 e.2 := fa_cons so_4_3 (fa_cons so_4_23 (fa_cons so_4_28 (fa_cons so_4_37 (fa_cons so_4_41 (fa_cons so_4_45 (fa_cons so_4_49 (fa_cons so_4_58 (fa_cons so_4_61 (fa_cons so_4_68 (fa_cons so_4_71 (fa_cons so_4_75 (fa_cons so_4_78 (fa_cons so_4_81 (fa_cons so_4_84 (fa_cons so_4_88 (fa_cons so_4_92 (fa_cons so_4_95 (fa_cons so_4_99 (fa_cons so_4_102 (fa_cons so_4_111 (fa_cons so_4_115 (fa_nil))))))))))))))))))))))
theorem so_5_3 : sOK 5 3 (1, 1, [(5, m_Co_init), (6, m_Co_init)]) := fa_cons (⟨Or.inl (ix 661 (by decide +kernel)), ix 662 (by decide +kernel), ⟨_, rfl, by decide +kernel⟩, ⟨rfl, rfl⟩, ok_Co_init⟩) (fa_cons (⟨Or.inl (ix 661 (by decide +kernel)), ix 662 (by decide +kernel), ⟨_, rfl, by decide +kernel⟩, ⟨rfl, rfl⟩, ok_Co_init⟩) (fa_nil))
theorem so_5_19 : sOK 5 19 (5, 1, [(5, m_Co_bytesPassed)]) := fa_cons (⟨⟨"FormatForge$Reading", "bytesPassed", "()I"⟩, "FormatForge$Course", ix 789 (by decide +kernel), ix 790 (by decide +kernel), Or.inr rfl, ix 720 (by decide +kernel), Or.inl (ix 791 (by decide +kernel)), ⟨_, rfl, by decide +kernel⟩, ⟨by decide, by decide +kernel⟩, ok_Co_bytesPassed⟩) (fa_nil)
theorem so_5_37 : sOK 5 37 (2, 2, [(0, m_By_at)]) := fa_cons (⟨ix 712 (by decide +kernel), ix 304 (by decide +kernel), ix 305 (by decide +kernel), ⟨_, rfl, by decide +kernel⟩, ⟨by decide, rfl⟩, ok_By_at⟩) (fa_nil)
theorem so_5_41 : sOK 5 41 (2, 1, [(2, m_No_mayBeNegative)]) := fa_cons (⟨ix 825 (by decide +kernel), ix 374 (by decide +kernel), ix 375 (by decide +kernel), ⟨_, rfl, by decide +kernel⟩, ⟨by decide, rfl⟩, ok_No_mayBeNegative⟩) (fa_nil)
theorem so_5_48 : sOK 5 48 (2, 3, [(5, m_Re_keep)]) := fa_cons (⟨ix 749 (by decide +kernel), ix 751 (by decide +kernel), ix 16 (by decide +kernel), ⟨_, rfl, by decide +kernel⟩, ⟨by decide, rfl⟩, ok_Re_keep⟩) (fa_nil)
theorem so_5_52 : sOK 5 52 (2, 1, [(5, m_Re_nextBit)]) := fa_cons (⟨ix 708 (by decide +kernel), ix 710 (by decide +kernel), ix 15 (by decide +kernel), ⟨_, rfl, by decide +kernel⟩, ⟨by decide, rfl⟩, ok_Re_nextBit⟩) (fa_nil)
theorem so_5_55 : sOK 5 55 (2, 3, [(5, m_Re_keepBytes)]) := fa_cons (⟨ix 792 (by decide +kernel), ix 794 (by decide +kernel), ix 20 (by decide +kernel), ⟨_, rfl, by decide +kernel⟩, ⟨by decide, rfl⟩, ok_Re_keepBytes⟩) (fa_nil)
theorem so_5_59 : sOK 5 59 (2, 2, [(2, m_No_holds)]) := fa_cons (⟨ix 753 (by decide +kernel), ix 556 (by decide +kernel), ix 557 (by decide +kernel), ⟨_, rfl, by decide +kernel⟩, ⟨by decide, rfl⟩, ok_No_holds⟩) (fa_nil)
theorem so_5_63 : sOK 5 63 (2, 2, [(1, m_Lo_append)]) := fa_cons (⟨ix 754 (by decide +kernel), ix 755 (by decide +kernel), ix 756 (by decide +kernel), ⟨_, rfl, by decide +kernel⟩, ⟨by decide, rfl⟩, ok_Lo_append⟩) (fa_nil)
theorem so_5 : ∀ e ∈ cal_5, sOK 5 e.1 e.2 := fa_cons so_5_3 (fa_cons so_5_19 (fa_cons so_5_37 (fa_cons so_5_41 (fa_cons so_5_48 (fa_cons so_5_52 (fa_cons so_5_55 (fa_cons so_5_59 (fa_cons so_5_63 (fa_nil)))))))))
theorem so_6_3 : sOK 6 3 (1, 1, [(5, m_Co_init), (6, m_Co_init)]) := fa_cons (⟨Or.inl (ix 874 (by decide +kernel)), ix 662 (by decide +kernel), ⟨_, rfl, by decide +kernel⟩, ⟨rfl, rfl⟩, ok_Co_init⟩) (fa_cons (⟨Or.inl (ix 874 (by decide +kernel)), ix 662 (by decide +kernel), ⟨_, rfl, by decide +kernel⟩, ⟨rfl, rfl⟩, ok_Co_init⟩) (fa_nil))
theorem so_6_27 : sOK 6 27 (2, 2, [(6, m_Wr_takeFor)]) := fa_cons (⟨ix 761 (by decide +kernel), ix 763 (by decide +kernel), ix 17 (by decide +kernel), ⟨_, rfl, by decide +kernel⟩, ⟨by decide, rfl⟩, ok_Wr_takeFor⟩) (fa_nil)
theorem so_6_39 : sOK 6 39 (0, 2, [(0, m_Ff_byteOf)]) := fa_cons (⟨Or.inr ⟨"FormatForge", ix 829 (by decide +kernel)⟩, ix 402 (by decide +kernel), by decide +kernel, ok_Ff_byteOf⟩) (fa_nil)
theorem so_6_43 : sOK 6 43 (2, 2, [(6, m_Wr_make)]) := fa_cons (⟨ix 805 (by decide +kernel), ix 807 (by decide +kernel), ix 22 (by decide +kernel), ⟨_, rfl, by decide +kernel⟩, ⟨by decide, rfl⟩, ok_Wr_make⟩) (fa_nil)
theorem so_6_47 : sOK 6 47 (2, 2, [(6, m_Wr_makeBit)]) := fa_cons (⟨ix 774 (by decide +kernel), ix 776 (by decide +kernel), ix 19 (by decide +kernel), ⟨_, rfl, by decide +kernel⟩, ⟨by decide, rfl⟩, ok_Wr_makeBit⟩) (fa_nil)
theorem so_6_52 : sOK 6 52 (2, 3, [(6, m_Wr_take)]) := fa_cons (⟨ix 766 (by decide +kernel), ix 768 (by decide +kernel), ix 18 (by decide +kernel), ⟨_, rfl, by decide +kernel⟩, ⟨by decide, rfl⟩, ok_Wr_take⟩) (fa_nil)
theorem so_6_56 : sOK 6 56 (2, 3, [(6, m_Wr_makeBytes)]) := fa_cons (⟨ix 800 (by decide +kernel), ix 802 (by decide +kernel), ix 21 (by decide +kernel), ⟨_, rfl, by decide +kernel⟩, ⟨by decide, rfl⟩, ok_Wr_makeBytes⟩) (fa_nil)
theorem so_6_62 : sOK 6 62 (5, 1, [(6, m_Co_bytesPassed)]) := fa_cons (⟨⟨"FormatForge$Writing", "bytesPassed", "()I"⟩, "FormatForge$Course", ix 716 (by decide +kernel), ix 717 (by decide +kernel), Or.inr rfl, ix 720 (by decide +kernel), Or.inl (ix 719 (by decide +kernel)), ⟨_, rfl, by decide +kernel⟩, ⟨by decide, by decide +kernel⟩, ok_Co_bytesPassed⟩) (fa_nil)
theorem so_6_83 : sOK 6 83 (2, 2, [(1, m_Lo_at)]) := fa_cons (⟨ix 770 (by decide +kernel), ix 771 (by decide +kernel), ix 772 (by decide +kernel), ⟨_, rfl, by decide +kernel⟩, ⟨by decide, rfl⟩, ok_Lo_at⟩) (fa_nil)
theorem so_6_89 : sOK 6 89 (2, 2, [(0, m_By_append)]) := fa_cons (⟨ix 778 (by decide +kernel), ix 494 (by decide +kernel), ix 495 (by decide +kernel), ⟨_, rfl, by decide +kernel⟩, ⟨by decide, rfl⟩, ok_By_append⟩) (fa_nil)
theorem so_6_95 : sOK 6 95 (2, 2, [(0, m_By_markInLast)]) := fa_cons (⟨ix 779 (by decide +kernel), ix 780 (by decide +kernel), ix 781 (by decide +kernel), ⟨_, rfl, by decide +kernel⟩, ⟨by decide, rfl⟩, ok_By_markInLast⟩) (fa_nil)
theorem so_6 : ∀ e ∈ cal_6, sOK 6 e.1 e.2 := fa_cons so_6_3 (fa_cons so_6_27 (fa_cons so_6_39 (fa_cons so_6_43 (fa_cons so_6_47 (fa_cons so_6_52 (fa_cons so_6_56 (fa_cons so_6_62 (fa_cons so_6_83 (fa_cons so_6_89 (fa_cons so_6_95 (fa_nil)))))))))))
theorem so_7_1 : sOK 7 1 (3, 1, []) := ix 94 (by decide +kernel)
theorem so_7_11 : sOK 7 11 (1, 2, [(0, m_By_init)]) := fa_cons (⟨Or.inl (ix 99 (by decide +kernel)), ix 100 (by decide +kernel), ⟨_, rfl, by decide +kernel⟩, ⟨rfl, rfl⟩, ok_By_init⟩) (fa_nil)
theorem so_7_23 : sOK 7 23 (1, 2, [(1, m_Lo_init)]) := fa_cons (⟨Or.inl (ix 116 (by decide +kernel)), ix 117 (by decide +kernel), ⟨_, rfl, by decide +kernel⟩, ⟨rfl, rfl⟩, ok_Lo_init⟩) (fa_nil)
theorem so_7_36 : sOK 7 36 (1, 1, [(3, m_Fo_init)]) := fa_cons (⟨Or.inl (ix 132 (by decide +kernel)), ix 133 (by decide +kernel), ⟨_, rfl, by decide +kernel⟩, ⟨rfl, rfl⟩, ok_Fo_init⟩) (fa_nil)
theorem so_7_55 : sOK 7 55 (0, 2, [(0, m_Ff_byteOf)]) := fa_cons (⟨Or.inl (ix 401 (by decide +kernel)), ix 402 (by decide +kernel), by decide +kernel, ok_Ff_byteOf⟩) (fa_nil)
theorem so_7_66 : sOK 7 66 (2, 2, [(0, m_By_hasRoomFor)]) := fa_cons (⟨ix 473 (by decide +kernel), ix 474 (by decide +kernel), ix 475 (by decide +kernel), ⟨_, rfl, by decide +kernel⟩, ⟨by decide, rfl⟩, ok_By_hasRoomFor⟩) (fa_nil)
theorem so_7_75 : sOK 7 75 (2, 2, [(0, m_By_append)]) := fa_cons (⟨ix 493 (by decide +kernel), ix 494 (by decide +kernel), ix 495 (by decide +kernel), ⟨_, rfl, by decide +kernel⟩, ⟨by decide, rfl⟩, ok_By_append⟩) (fa_nil)
theorem so_7_81 : sOK 7 81 (2, 1, [(0, m_By_forgetAll)]) := fa_cons (⟨ix 267 (by decide +kernel), ix 268 (by decide +kernel), ix 269 (by decide +kernel), ⟨_, rfl, by decide +kernel⟩, ⟨by decide, rfl⟩, ok_By_forgetAll⟩) (fa_nil)
theorem so_7_86 : sOK 7 86 (1, 3, [(4, m_Pa_init)]) := fa_cons (⟨Or.inl (ix 277 (by decide +kernel)), ix 278 (by decide +kernel), ⟨_, rfl, by decide +kernel⟩, ⟨rfl, rfl⟩, ok_Pa_init⟩) (fa_nil)
theorem so_7_89 : sOK 7 89 (2, 1, [(4, m_Pa_parse)]) := fa_cons (⟨ix 291 (by decide +kernel), ix 292 (by decide +kernel), ix 293 (by decide +kernel), ⟨_, rfl, by decide +kernel⟩, ⟨by decide, rfl⟩, ok_Pa_parse⟩) (fa_nil)
theorem so_7_98 : sOK 7 98 (2, 1, [(3, m_Fo_isSound)]) := fa_cons (⟨ix 521 (by decide +kernel), ix 522 (by decide +kernel), ix 523 (by decide +kernel), ⟨_, rfl, by decide +kernel⟩, ⟨by decide, rfl⟩, ok_Fo_isSound⟩) (fa_nil)
theorem so_7_104 : sOK 7 104 (2, 1, [(3, m_Fo_most)]) := fa_cons (⟨ix 583 (by decide +kernel), ix 584 (by decide +kernel), ix 585 (by decide +kernel), ⟨_, rfl, by decide +kernel⟩, ⟨by decide, rfl⟩, ok_Fo_most⟩) (fa_nil)
theorem so_7_112 : sOK 7 112 (2, 1, [(3, m_Fo_least)]) := fa_cons (⟨ix 615 (by decide +kernel), ix 616 (by decide +kernel), ix 617 (by decide +kernel), ⟨_, rfl, by decide +kernel⟩, ⟨by decide, rfl⟩, ok_Fo_least⟩) (fa_nil)
theorem so_7_121 : sOK 7 121 (2, 2, [(0, m_By_shortenTo)]) := fa_cons (⟨ix 636 (by decide +kernel), ix 637 (by decide +kernel), ix 638 (by decide +kernel), ⟨_, rfl, by decide +kernel⟩, ⟨by decide, rfl⟩, ok_By_shortenTo⟩) (fa_nil)
theorem so_7_124 : sOK 7 124 (2, 1, [(7, m_Ff_demandCompiled)]) := fa_cons (⟨ix 648 (by decide +kernel), ix 650 (by decide +kernel), ix 14 (by decide +kernel), ⟨_, rfl, by decide +kernel⟩, ⟨by decide, rfl⟩, ok_Ff_demandCompiled⟩) (fa_nil)
theorem so_7_127 : sOK 7 127 (2, 1, [(1, m_Lo_forgetAll)]) := fa_cons (⟨ix 652 (by decide +kernel), ix 653 (by decide +kernel), ix 654 (by decide +kernel), ⟨_, rfl, by decide +kernel⟩, ⟨by decide, rfl⟩, ok_Lo_forgetAll⟩) (fa_nil)
theorem so_7_130 : sOK 7 130 (1, 3, [(5, m_Re_init)]) := fa_cons (⟨Or.inl (ix 658 (by decide +kernel)), ix 659 (by decide +kernel), ⟨_, rfl, by decide +kernel⟩, ⟨rfl, rfl⟩, ok_Re_init⟩) (fa_nil)
theorem so_7_133 : sOK 7 133 (5, 2, [(5, m_Co_pass)]) := fa_cons (⟨⟨"FormatForge$Reading", "pass", "(LFormatForge$Format;)I"⟩, "FormatForge$Course", ix 687 (by decide +kernel), ix 688 (by decide +kernel), Or.inr rfl, ix 691 (by decide +kernel), Or.inl (ix 690 (by decide +kernel)), ⟨_, rfl, by decide +kernel⟩, ⟨by decide, by decide +kernel⟩, ok_Co_pass⟩) (fa_nil)
theorem so_7_137 : sOK 7 137 (2, 3, [(7, m_Ff_demandFine)]) := fa_cons (⟨ix 830 (by decide +kernel), ix 832 (by decide +kernel), ix 23 (by decide +kernel), ⟨_, rfl, by decide +kernel⟩, ⟨by decide, rfl⟩, ok_Ff_demandFine⟩) (fa_nil)
theorem so_7_141 : sOK 7 141 (5, 1, [(5, m_Co_bytesPassed)]) := fa_cons (⟨⟨"FormatForge$Reading", "bytesPassed", "()I"⟩, "FormatForge$Course", ix 836 (by decide +kernel), ix 790 (by decide +kernel), Or.inr rfl, ix 720 (by decide +kernel), Or.inl (ix 791 (by decide +kernel)), ⟨_, rfl, by decide +kernel⟩, ⟨by decide, by decide +kernel⟩, ok_Co_bytesPassed⟩) (fa_nil)
theorem so_7_149 : sOK 7 149 (2, 2, [(1, m_Lo_becomeLike)]) := fa_cons (⟨ix 853 (by decide +kernel), ix 854 (by decide +kernel), ix 855 (by decide +kernel), ⟨_, rfl, by decide +kernel⟩, ⟨by decide, rfl⟩, ok_Lo_becomeLike⟩) (fa_nil)
theorem so_7_156 : sOK 7 156 (1, 3, [(6, m_Wr_init)]) := fa_cons (⟨Or.inl (ix 871 (by decide +kernel)), ix 872 (by decide +kernel), ⟨_, rfl, by decide +kernel⟩, ⟨rfl, rfl⟩, ok_Wr_init⟩) (fa_nil)
theorem so_7_159 : sOK 7 159 (5, 2, [(6, m_Co_pass)]) := fa_cons (⟨⟨"FormatForge$Writing", "pass", "(LFormatForge$Format;)I"⟩, "FormatForge$Course", ix 892 (by decide +kernel), ix 893 (by decide +kernel), Or.inr rfl, ix 691 (by decide +kernel), Or.inl (ix 894 (by decide +kernel)), ⟨_, rfl, by decide +kernel⟩, ⟨by decide, by decide +kernel⟩, ok_Co_pass⟩) (fa_nil)
theorem so_7_165 : sOK 7 165 (2, 2, [(0, m_By_becomeLike)]) := fa_cons (⟨ix 896 (by decide +kernel), ix 897 (by decide +kernel), ix 898 (by decide +kernel), ⟨_, rfl, by decide +kernel⟩, ⟨by decide, rfl⟩, ok_By_becomeLike⟩) (fa_nil)
theorem so_7_168 : sOK 7 168 (2, 2, [(7, m_Ff_demandValue)]) := fa_cons (⟨ix 909 (by decide +kernel), ix 911 (by decide +kernel), ix 24 (by decide +kernel), ⟨_, rfl, by decide +kernel⟩, ⟨by decide, rfl⟩, ok_Ff_demandValue⟩) (fa_nil)
theorem so_7_171 : sOK 7 171 (2, 2, [(1, m_Lo_at)]) := fa_cons (⟨ix 914 (by decide +kernel), ix 771 (by decide +kernel), ix 772 (by decide +kernel), ⟨_, rfl, by decide +kernel⟩, ⟨by decide, rfl⟩, ok_Lo_at⟩) (fa_nil)
theorem so_7_175 : sOK 7 175 (0, 1, [(0, m_Ff_doubleOf)]) := fa_cons (⟨Or.inl (ix 922 (by decide +kernel)), ix 923 (by decide +kernel), by decide +kernel, ok_Ff_doubleOf⟩) (fa_nil)
theorem so_7_181 : sOK 7 181 (2, 3, [(1, m_Lo_replace)]) := fa_cons (⟨ix 939 (by decide +kernel), ix 940 (by decide +kernel), ix 941 (by decide +kernel), ⟨_, rfl, by decide +kernel⟩, ⟨by decide, rfl⟩, ok_Lo_replace⟩) (fa_nil)
theorem so_7_185 : sOK 7 185 (2, 2, [(1, m_Lo_append)]) := fa_cons (⟨ix 943 (by decide +kernel), ix 755 (by decide +kernel), ix 756 (by decide +kernel), ⟨_, rfl, by decide +kernel⟩, ⟨by decide, rfl⟩, ok_Lo_append⟩) (fa_nil)
theorem so_7_192 : sOK 7 192 (2, 3, [(1, m_Lo_takeOut)]) := fa_cons (⟨ix 953 (by decide +kernel), ix 954 (by decide +kernel), ix 955 (by decide +kernel), ⟨_, rfl, by decide +kernel⟩, ⟨by decide, rfl⟩, ok_Lo_takeOut⟩) (fa_nil)
theorem so_7_198 : sOK 7 198 (2, 2, [(0, m_By_at)]) := fa_cons (⟨ix 965 (by decide +kernel), ix 304 (by decide +kernel), ix 305 (by decide +kernel), ⟨_, rfl, by decide +kernel⟩, ⟨by decide, rfl⟩, ok_By_at⟩) (fa_nil)
theorem so_7_219 : sOK 7 219 (6, 2, []) := ix 928 (by decide +kernel)
theorem so_7 : ∀ e ∈ cal_7, sOK 7 e.1 e.2 := fa_cons so_7_1 (fa_cons so_7_11 (fa_cons so_7_23 (fa_cons so_7_36 (fa_cons so_7_55 (fa_cons so_7_66 (fa_cons so_7_75 (fa_cons so_7_81 (fa_cons so_7_86 (fa_cons so_7_89 (fa_cons so_7_98 (fa_cons so_7_104 (fa_cons so_7_112 (fa_cons so_7_121 (fa_cons so_7_124 (fa_cons so_7_127 (fa_cons so_7_130 (fa_cons so_7_133 (fa_cons so_7_137 (fa_cons so_7_141 (fa_cons so_7_149 (fa_cons so_7_156 (fa_cons so_7_159 (fa_cons so_7_165 (fa_cons so_7_168 (fa_cons so_7_171 (fa_cons so_7_175 (fa_cons so_7_181 (fa_cons so_7_185 (fa_cons so_7_192 (fa_cons so_7_198 (fa_cons so_7_219 (fa_nil))))))))))))))))))))))))))))))))
theorem so_8_1 : sOK 8 1 (3, 1, []) := ix 979 (by decide +kernel)
theorem so_8_114 : sOK 8 114 (2, 2, [(8, m_Mo_fail)]) := fa_cons (⟨ix 1137 (by decide +kernel), ix 1139 (by decide +kernel), ix 25 (by decide +kernel), ⟨_, rfl, by decide +kernel⟩, ⟨by decide, rfl⟩, ok_Mo_fail⟩) (fa_nil)
theorem so_8_124 : sOK 8 124 (2, 2, [(8, m_Mo_sized)]) := fa_cons (⟨ix 1161 (by decide +kernel), ix 1163 (by decide +kernel), ix 29 (by decide +kernel), ⟨_, rfl, by decide +kernel⟩, ⟨by decide, rfl⟩, ok_Mo_sized⟩) (fa_nil)
theorem so_8_131 : sOK 8 131 (2, 3, [(8, m_Mo_hang)]) := fa_cons (⟨ix 1165 (by decide +kernel), ix 1167 (by decide +kernel), ix 30 (by decide +kernel), ⟨_, rfl, by decide +kernel⟩, ⟨by decide, rfl⟩, ok_Mo_hang⟩) (fa_nil)
theorem so_8_135 : sOK 8 135 (2, 1, [(8, m_Mo_finish)]) := fa_cons (⟨ix 1169 (by decide +kernel), ix 1171 (by decide +kernel), ix 31 (by decide +kernel), ⟨_, rfl, by decide +kernel⟩, ⟨by decide, rfl⟩, ok_Mo_finish⟩) (fa_nil)
theorem so_8_138 : sOK 8 138 (2, 2, [(8, m_Mo_isDigit)]) := fa_cons (⟨ix 1177 (by decide +kernel), ix 1179 (by decide +kernel), ix 33 (by decide +kernel), ⟨_, rfl, by decide +kernel⟩, ⟨by decide, rfl⟩, ok_Mo_isDigit⟩) (fa_nil)
theorem so_8_141 : sOK 8 141 (2, 2, [(8, m_Mo_isName)]) := fa_cons (⟨ix 1185 (by decide +kernel), ix 1187 (by decide +kernel), ix 35 (by decide +kernel), ⟨_, rfl, by decide +kernel⟩, ⟨by decide, rfl⟩, ok_Mo_isName⟩) (fa_nil)
theorem so_8_144 : sOK 8 144 (2, 2, [(8, m_Mo_beginType)]) := fa_cons (⟨ix 1157 (by decide +kernel), ix 1159 (by decide +kernel), ix 28 (by decide +kernel), ⟨_, rfl, by decide +kernel⟩, ⟨by decide, rfl⟩, ok_Mo_beginType⟩) (fa_nil)
theorem so_8_147 : sOK 8 147 (2, 2, [(8, m_Mo_inSized)]) := fa_cons (⟨ix 1173 (by decide +kernel), ix 1175 (by decide +kernel), ix 32 (by decide +kernel), ⟨_, rfl, by decide +kernel⟩, ⟨by decide, rfl⟩, ok_Mo_inSized⟩) (fa_nil)
theorem so_8_150 : sOK 8 150 (2, 2, [(8, m_Mo_inStructure)]) := fa_cons (⟨ix 1181 (by decide +kernel), ix 1183 (by decide +kernel), ix 34 (by decide +kernel), ⟨_, rfl, by decide +kernel⟩, ⟨by decide, rfl⟩, ok_Mo_inStructure⟩) (fa_nil)
theorem so_8_153 : sOK 8 153 (2, 2, [(8, m_Mo_inChoice)]) := fa_cons (⟨ix 1189 (by decide +kernel), ix 1191 (by decide +kernel), ix 36 (by decide +kernel), ⟨_, rfl, by decide +kernel⟩, ⟨by decide, rfl⟩, ok_Mo_inChoice⟩) (fa_nil)
theorem so_8_156 : sOK 8 156 (2, 2, [(8, m_Mo_inMany)]) := fa_cons (⟨ix 1193 (by decide +kernel), ix 1195 (by decide +kernel), ix 37 (by decide +kernel), ⟨_, rfl, by decide +kernel⟩, ⟨by decide, rfl⟩, ok_Mo_inMany⟩) (fa_nil)
theorem so_8_162 : sOK 8 162 (2, 2, [(8, m_Mo_sign)]) := fa_cons (⟨ix 1153 (by decide +kernel), ix 1155 (by decide +kernel), ix 27 (by decide +kernel), ⟨_, rfl, by decide +kernel⟩, ⟨by decide, rfl⟩, ok_Mo_sign⟩) (fa_nil)
theorem so_8_165 : sOK 8 165 (2, 1, [(8, m_Mo_wholeNow)]) := fa_cons (⟨ix 1197 (by decide +kernel), ix 1199 (by decide +kernel), ix 38 (by decide +kernel), ⟨_, rfl, by decide +kernel⟩, ⟨by decide, rfl⟩, ok_Mo_wholeNow⟩) (fa_nil)
theorem so_8_169 : sOK 8 169 (2, 2, [(8, m_Mo_scan)]) := fa_cons (⟨ix 1149 (by decide +kernel), ix 1151 (by decide +kernel), ix 26 (by decide +kernel), ⟨_, rfl, by decide +kernel⟩, ⟨by decide, rfl⟩, ok_Mo_scan⟩) (fa_nil)
theorem so_8_185 : sOK 8 185 (2, 2, [(8, m_Mo_sumFields)]) := fa_cons (⟨ix 1226 (by decide +kernel), ix 1228 (by decide +kernel), ix 43 (by decide +kernel), ⟨_, rfl, by decide +kernel⟩, ⟨by decide, rfl⟩, ok_Mo_sumFields⟩) (fa_nil)
theorem so_8_189 : sOK 8 189 (2, 2, [(8, m_Mo_capped)]) := fa_cons (⟨ix 1230 (by decide +kernel), ix 1232 (by decide +kernel), ix 44 (by decide +kernel), ⟨_, rfl, by decide +kernel⟩, ⟨by decide, rfl⟩, ok_Mo_capped⟩) (fa_nil)
theorem so_8_195 : sOK 8 195 (2, 2, [(8, m_Mo_goodCases)]) := fa_cons (⟨ix 1240 (by decide +kernel), ix 1242 (by decide +kernel), ix 46 (by decide +kernel), ⟨_, rfl, by decide +kernel⟩, ⟨by decide, rfl⟩, ok_Mo_goodCases⟩) (fa_nil)
theorem so_8_198 : sOK 8 198 (2, 2, [(8, m_Mo_interval)]) := fa_cons (⟨ix 1209 (by decide +kernel), ix 1211 (by decide +kernel), ix 40 (by decide +kernel), ⟨_, rfl, by decide +kernel⟩, ⟨by decide, rfl⟩, ok_Mo_interval⟩) (fa_nil)
theorem so_8_201 : sOK 8 201 (2, 2, [(8, m_Mo_find)]) := fa_cons (⟨ix 1214 (by decide +kernel), ix 1216 (by decide +kernel), ix 41 (by decide +kernel), ⟨_, rfl, by decide +kernel⟩, ⟨by decide, rfl⟩, ok_Mo_find⟩) (fa_nil)
theorem so_8_204 : sOK 8 204 (2, 2, [(8, m_Mo_measure)]) := fa_cons (⟨ix 1218 (by decide +kernel), ix 1220 (by decide +kernel), ix 42 (by decide +kernel), ⟨_, rfl, by decide +kernel⟩, ⟨by decide, rfl⟩, ok_Mo_measure⟩) (fa_nil)
theorem so_8_207 : sOK 8 207 (2, 2, [(8, m_Mo_soundNode)]) := fa_cons (⟨ix 1235 (by decide +kernel), ix 1237 (by decide +kernel), ix 45 (by decide +kernel), ⟨_, rfl, by decide +kernel⟩, ⟨by decide, rfl⟩, ok_Mo_soundNode⟩) (fa_nil)
theorem so_8_214 : sOK 8 214 (2, 1, [(8, m_Mo_soundAll)]) := fa_cons (⟨ix 1205 (by decide +kernel), ix 1207 (by decide +kernel), ix 39 (by decide +kernel), ⟨_, rfl, by decide +kernel⟩, ⟨by decide, rfl⟩, ok_Mo_soundAll⟩) (fa_nil)
theorem so_8_217 : sOK 8 217 (2, 1, [(8, m_Mo_restore)]) := fa_cons (⟨ix 1248 (by decide +kernel), ix 1250 (by decide +kernel), ix 47 (by decide +kernel), ⟨_, rfl, by decide +kernel⟩, ⟨by decide, rfl⟩, ok_Mo_restore⟩) (fa_nil)
theorem so_8_229 : sOK 8 229 (2, 2, [(8, m_Mo_wrong)]) := fa_cons (⟨ix 1280 (by decide +kernel), ix 1282 (by decide +kernel), ix 52 (by decide +kernel), ⟨_, rfl, by decide +kernel⟩, ⟨by decide, rfl⟩, ok_Mo_wrong⟩) (fa_nil)
theorem so_8_245 : sOK 8 245 (2, 1, [(8, m_Mo_nextByte)]) := fa_cons (⟨ix 1312 (by decide +kernel), ix 1314 (by decide +kernel), ix 60 (by decide +kernel), ⟨_, rfl, by decide +kernel⟩, ⟨by decide, rfl⟩, ok_Mo_nextByte⟩) (fa_nil)
theorem so_8_249 : sOK 8 249 (2, 2, [(8, m_Mo_putByte)]) := fa_cons (⟨ix 1300 (by decide +kernel), ix 1302 (by decide +kernel), ix 57 (by decide +kernel), ⟨_, rfl, by decide +kernel⟩, ⟨by decide, rfl⟩, ok_Mo_putByte⟩) (fa_nil)
theorem so_8_252 : sOK 8 252 (2, 1, [(8, m_Mo_take)]) := fa_cons (⟨ix 1292 (by decide +kernel), ix 1294 (by decide +kernel), ix 55 (by decide +kernel), ⟨_, rfl, by decide +kernel⟩, ⟨by decide, rfl⟩, ok_Mo_take⟩) (fa_nil)
theorem so_8_256 : sOK 8 256 (2, 3, [(8, m_Mo_writeBits)]) := fa_cons (⟨ix 1296 (by decide +kernel), ix 1298 (by decide +kernel), ix 56 (by decide +kernel), ⟨_, rfl, by decide +kernel⟩, ⟨by decide, rfl⟩, ok_Mo_writeBits⟩) (fa_nil)
theorem so_8_260 : sOK 8 260 (2, 3, [(8, m_Mo_writeNumber)]) := fa_cons (⟨ix 1304 (by decide +kernel), ix 1306 (by decide +kernel), ix 58 (by decide +kernel), ⟨_, rfl, by decide +kernel⟩, ⟨by decide, rfl⟩, ok_Mo_writeNumber⟩) (fa_nil)
theorem so_8_264 : sOK 8 264 (2, 2, [(8, m_Mo_readBits)]) := fa_cons (⟨ix 1308 (by decide +kernel), ix 1310 (by decide +kernel), ix 59 (by decide +kernel), ⟨_, rfl, by decide +kernel⟩, ⟨by decide, rfl⟩, ok_Mo_readBits⟩) (fa_nil)
theorem so_8_268 : sOK 8 268 (2, 2, [(8, m_Mo_readNumber)]) := fa_cons (⟨ix 1316 (by decide +kernel), ix 1318 (by decide +kernel), ix 61 (by decide +kernel), ⟨_, rfl, by decide +kernel⟩, ⟨by decide, rfl⟩, ok_Mo_readNumber⟩) (fa_nil)
theorem so_8_271 : sOK 8 271 (2, 2, [(8, m_Mo_give)]) := fa_cons (⟨ix 1320 (by decide +kernel), ix 1322 (by decide +kernel), ix 62 (by decide +kernel), ⟨_, rfl, by decide +kernel⟩, ⟨by decide, rfl⟩, ok_Mo_give⟩) (fa_nil)
theorem so_8_279 : sOK 8 279 (2, 1, [(8, m_Mo_rest)]) := fa_cons (⟨ix 1276 (by decide +kernel), ix 1278 (by decide +kernel), ix 51 (by decide +kernel), ⟨_, rfl, by decide +kernel⟩, ⟨by decide, rfl⟩, ok_Mo_rest⟩) (fa_nil)
theorem so_8_285 : sOK 8 285 (2, 2, [(8, m_Mo_nameAround)]) := fa_cons (⟨ix 1284 (by decide +kernel), ix 1286 (by decide +kernel), ix 53 (by decide +kernel), ⟨_, rfl, by decide +kernel⟩, ⟨by decide, rfl⟩, ok_Mo_nameAround⟩) (fa_nil)
theorem so_8_291 : sOK 8 291 (2, 2, [(8, m_Mo_sizedUnit)]) := fa_cons (⟨ix 1288 (by decide +kernel), ix 1290 (by decide +kernel), ix 54 (by decide +kernel), ⟨_, rfl, by decide +kernel⟩, ⟨by decide, rfl⟩, ok_Mo_sizedUnit⟩) (fa_nil)
theorem so_8_294 : sOK 8 294 (2, 2, [(8, m_Mo_floating)]) := fa_cons (⟨ix 1324 (by decide +kernel), ix 1326 (by decide +kernel), ix 63 (by decide +kernel), ⟨_, rfl, by decide +kernel⟩, ⟨by decide, rfl⟩, ok_Mo_floating⟩) (fa_nil)
theorem so_8_297 : sOK 8 297 (2, 2, [(8, m_Mo_writeWords)]) := fa_cons (⟨ix 1328 (by decide +kernel), ix 1330 (by decide +kernel), ix 64 (by decide +kernel), ⟨_, rfl, by decide +kernel⟩, ⟨by decide, rfl⟩, ok_Mo_writeWords⟩) (fa_nil)
theorem so_8_300 : sOK 8 300 (2, 2, [(8, m_Mo_words)]) := fa_cons (⟨ix 1334 (by decide +kernel), ix 1336 (by decide +kernel), ix 65 (by decide +kernel), ⟨_, rfl, by decide +kernel⟩, ⟨by decide, rfl⟩, ok_Mo_words⟩) (fa_nil)
theorem so_8_303 : sOK 8 303 (2, 2, [(8, m_Mo_unit)]) := fa_cons (⟨ix 1272 (by decide +kernel), ix 1274 (by decide +kernel), ix 50 (by decide +kernel), ⟨_, rfl, by decide +kernel⟩, ⟨by decide, rfl⟩, ok_Mo_unit⟩) (fa_nil)
theorem so_8_309 : sOK 8 309 (2, 2, [(8, m_Mo_enter)]) := fa_cons (⟨ix 1268 (by decide +kernel), ix 1270 (by decide +kernel), ix 49 (by decide +kernel), ⟨_, rfl, by decide +kernel⟩, ⟨by decide, rfl⟩, ok_Mo_enter⟩) (fa_nil)
theorem so_8_312 : sOK 8 312 (2, 1, [(8, m_Mo_goOn)]) := fa_cons (⟨ix 1338 (by decide +kernel), ix 1340 (by decide +kernel), ix 66 (by decide +kernel), ⟨_, rfl, by decide +kernel⟩, ⟨by decide, rfl⟩, ok_Mo_goOn⟩) (fa_nil)
theorem so_8_315 : sOK 8 315 (2, 2, [(8, m_Mo_pass)]) := fa_cons (⟨ix 1264 (by decide +kernel), ix 1266 (by decide +kernel), ix 48 (by decide +kernel), ⟨_, rfl, by decide +kernel⟩, ⟨by decide, rfl⟩, ok_Mo_pass⟩) (fa_nil)
theorem so_8_318 : sOK 8 318 (2, 3, [(8, m_Mo_out)]) := fa_cons (⟨ix 1350 (by decide +kernel), ix 1352 (by decide +kernel), ix 67 (by decide +kernel), ⟨_, rfl, by decide +kernel⟩, ⟨by decide, rfl⟩, ok_Mo_out⟩) (fa_nil)
theorem so_8 : ∀ e ∈ cal_8, sOK 8 e.1 e.2 := fa_cons so_8_1 (fa_cons so_8_114 (fa_cons so_8_124 (fa_cons so_8_131 (fa_cons so_8_135 (fa_cons so_8_138 (fa_cons so_8_141 (fa_cons so_8_144 (fa_cons so_8_147 (fa_cons so_8_150 (fa_cons so_8_153 (fa_cons so_8_156 (fa_cons so_8_162 (fa_cons so_8_165 (fa_cons so_8_169 (fa_cons so_8_185 (fa_cons so_8_189 (fa_cons so_8_195 (fa_cons so_8_198 (fa_cons so_8_201 (fa_cons so_8_204 (fa_cons so_8_207 (fa_cons so_8_214 (fa_cons so_8_217 (fa_cons so_8_229 (fa_cons so_8_245 (fa_cons so_8_249 (fa_cons so_8_252 (fa_cons so_8_256 (fa_cons so_8_260 (fa_cons so_8_264 (fa_cons so_8_268 (fa_cons so_8_271 (fa_cons so_8_279 (fa_cons so_8_285 (fa_cons so_8_291 (fa_cons so_8_294 (fa_cons so_8_297 (fa_cons so_8_300 (fa_cons so_8_303 (fa_cons so_8_309 (fa_cons so_8_312 (fa_cons so_8_315 (fa_cons so_8_318 (fa_nil))))))))))))))))))))))))))))))))))))))))))))
theorem so_9 : ∀ e ∈ cal_9, sOK 9 e.1 e.2 := fa_nil
theorem so_10 : ∀ e ∈ cal_10, sOK 10 e.1 e.2 := fa_nil
theorem so_11 : ∀ e ∈ cal_11, sOK 11 e.1 e.2 := fa_nil
theorem so_12 : ∀ e ∈ cal_12, sOK 12 e.1 e.2 := fa_nil
theorem so_13 : ∀ e ∈ cal_13, sOK 13 e.1 e.2 := fa_nil
theorem so_15_3 : sOK 15 3 (3, 1, []) := ix 664 (by decide +kernel)
theorem so_15_21 : sOK 15 21 (2, 1, [(3, m_Fo_whole)]) := fa_cons (⟨ix 693 (by decide +kernel), ix 588 (by decide +kernel), ix 589 (by decide +kernel), ⟨_, rfl, by decide +kernel⟩, ⟨by decide, rfl⟩, ok_Fo_whole⟩) (fa_nil)
theorem so_15_27 : sOK 15 27 (5, 3, [(5, m_Co_passType), (6, m_Co_passType)]) := fa_cons (⟨⟨"FormatForge$Course", "passType", "(LFormatForge$Node;I)I"⟩, "FormatForge$Course", ix 694 (by decide +kernel), ix 1383 (by decide +kernel), Or.inr rfl, ix 696 (by decide +kernel), Or.inr ⟨rfl, rfl, ix 695 (by decide +kernel)⟩, ⟨_, rfl, by decide +kernel⟩, ⟨by decide, by decide +kernel⟩, ok_Co_passType⟩) (fa_cons (⟨⟨"FormatForge$Course", "passType", "(LFormatForge$Node;I)I"⟩, "FormatForge$Course", ix 694 (by decide +kernel), ix 1383 (by decide +kernel), Or.inr rfl, ix 696 (by decide +kernel), Or.inr ⟨rfl, rfl, ix 695 (by decide +kernel)⟩, ⟨_, rfl, by decide +kernel⟩, ⟨by decide, by decide +kernel⟩, ok_Co_passType⟩) (fa_nil))
theorem so_15_36 : sOK 15 36 (5, 3, [(5, m_Co_passFields), (6, m_Co_passFields)]) := fa_cons (⟨⟨"FormatForge$Course", "passFields", "(LFormatForge$Node;I)I"⟩, "FormatForge$Course", ix 698 (by decide +kernel), ix 1384 (by decide +kernel), Or.inr rfl, ix 700 (by decide +kernel), Or.inr ⟨rfl, rfl, ix 699 (by decide +kernel)⟩, ⟨_, rfl, by decide +kernel⟩, ⟨by decide, by decide +kernel⟩, ok_Co_passFields⟩) (fa_cons (⟨⟨"FormatForge$Course", "passFields", "(LFormatForge$Node;I)I"⟩, "FormatForge$Course", ix 698 (by decide +kernel), ix 1384 (by decide +kernel), Or.inr rfl, ix 700 (by decide +kernel), Or.inr ⟨rfl, rfl, ix 699 (by decide +kernel)⟩, ⟨_, rfl, by decide +kernel⟩, ⟨by decide, by decide +kernel⟩, ok_Co_passFields⟩) (fa_nil))
theorem so_15_39 : sOK 15 39 (5, 3, [(5, m_Co_passCounted), (6, m_Co_passCounted)]) := fa_cons (⟨⟨"FormatForge$Course", "passCounted", "(LFormatForge$Node;I)I"⟩, "FormatForge$Course", ix 722 (by decide +kernel), ix 1385 (by decide +kernel), Or.inr rfl, ix 724 (by decide +kernel), Or.inr ⟨rfl, rfl, ix 723 (by decide +kernel)⟩, ⟨_, rfl, by decide +kernel⟩, ⟨by decide, by decide +kernel⟩, ok_Co_passCounted⟩) (fa_cons (⟨⟨"FormatForge$Course", "passCounted", "(LFormatForge$Node;I)I"⟩, "FormatForge$Course", ix 722 (by decide +kernel), ix 1385 (by decide +kernel), Or.inr rfl, ix 724 (by decide +kernel), Or.inr ⟨rfl, rfl, ix 723 (by decide +kernel)⟩, ⟨_, rfl, by decide +kernel⟩, ⟨by decide, by decide +kernel⟩, ok_Co_passCounted⟩) (fa_nil))
theorem so_15_42 : sOK 15 42 (5, 3, [(5, m_Co_passSized), (6, m_Co_passSized)]) := fa_cons (⟨⟨"FormatForge$Course", "passSized", "(LFormatForge$Node;I)I"⟩, "FormatForge$Course", ix 730 (by decide +kernel), ix 1386 (by decide +kernel), Or.inr rfl, ix 732 (by decide +kernel), Or.inr ⟨rfl, rfl, ix 731 (by decide +kernel)⟩, ⟨_, rfl, by decide +kernel⟩, ⟨by decide, by decide +kernel⟩, ok_Co_passSized⟩) (fa_cons (⟨⟨"FormatForge$Course", "passSized", "(LFormatForge$Node;I)I"⟩, "FormatForge$Course", ix 730 (by decide +kernel), ix 1386 (by decide +kernel), Or.inr rfl, ix 732 (by decide +kernel), Or.inr ⟨rfl, rfl, ix 731 (by decide +kernel)⟩, ⟨_, rfl, by decide +kernel⟩, ⟨by decide, by decide +kernel⟩, ok_Co_passSized⟩) (fa_nil))
theorem so_15_45 : sOK 15 45 (5, 3, [(5, m_Co_passChoice), (6, m_Co_passChoice)]) := fa_cons (⟨⟨"FormatForge$Course", "passChoice", "(LFormatForge$Node;I)I"⟩, "FormatForge$Course", ix 735 (by decide +kernel), ix 1390 (by decide +kernel), Or.inr rfl, ix 737 (by decide +kernel), Or.inr ⟨rfl, rfl, ix 736 (by decide +kernel)⟩, ⟨_, rfl, by decide +kernel⟩, ⟨by decide, by decide +kernel⟩, ok_Co_passChoice⟩) (fa_cons (⟨⟨"FormatForge$Course", "passChoice", "(LFormatForge$Node;I)I"⟩, "FormatForge$Course", ix 735 (by decide +kernel), ix 1390 (by decide +kernel), Or.inr rfl, ix 737 (by decide +kernel), Or.inr ⟨rfl, rfl, ix 736 (by decide +kernel)⟩, ⟨_, rfl, by decide +kernel⟩, ⟨by decide, by decide +kernel⟩, ok_Co_passChoice⟩) (fa_nil))
theorem so_15_48 : sOK 15 48 (5, 2, [(5, m_Co_passUnit), (6, m_Co_passUnit)]) := fa_cons (⟨⟨"FormatForge$Course", "passUnit", "(LFormatForge$Node;)I"⟩, "FormatForge$Course", ix 739 (by decide +kernel), ix 1391 (by decide +kernel), Or.inr rfl, ix 741 (by decide +kernel), Or.inr ⟨rfl, rfl, ix 740 (by decide +kernel)⟩, ⟨_, rfl, by decide +kernel⟩, ⟨by decide, by decide +kernel⟩, ok_Co_passUnit⟩) (fa_cons (⟨⟨"FormatForge$Course", "passUnit", "(LFormatForge$Node;)I"⟩, "FormatForge$Course", ix 739 (by decide +kernel), ix 1391 (by decide +kernel), Or.inr rfl, ix 741 (by decide +kernel), Or.inr ⟨rfl, rfl, ix 740 (by decide +kernel)⟩, ⟨_, rfl, by decide +kernel⟩, ⟨by decide, by decide +kernel⟩, ok_Co_passUnit⟩) (fa_nil))
theorem so_15_53 : sOK 15 53 (5, 2, [(5, m_Re_passBits), (6, m_Wr_passBits)]) := fa_cons (⟨⟨"FormatForge$Course", "passBits", "(LFormatForge$Node;)I"⟩, "FormatForge$Course", ix 743 (by decide +kernel), ix 745 (by decide +kernel), Or.inl (ix 744 (by decide +kernel)), ix 747 (by decide +kernel), Or.inl (ix 746 (by decide +kernel)), ⟨_, rfl, by decide +kernel⟩, ⟨by decide, by decide +kernel⟩, ok_Re_passBits⟩) (fa_cons (⟨⟨"FormatForge$Course", "passBits", "(LFormatForge$Node;)I"⟩, "FormatForge$Course", ix 743 (by decide +kernel), ix 745 (by decide +kernel), Or.inl (ix 744 (by decide +kernel)), ix 759 (by decide +kernel), Or.inl (ix 758 (by decide +kernel)), ⟨_, rfl, by decide +kernel⟩, ⟨by decide, by decide +kernel⟩, ok_Wr_passBits⟩) (fa_nil))
theorem so_15_56 : sOK 15 56 (5, 1, [(5, m_Re_passWords), (6, m_Wr_passWords)]) := fa_cons (⟨⟨"FormatForge$Course", "passWords", "()I"⟩, "FormatForge$Course", ix 783 (by decide +kernel), ix 785 (by decide +kernel), Or.inl (ix 784 (by decide +kernel)), ix 787 (by decide +kernel), Or.inl (ix 786 (by decide +kernel)), ⟨_, rfl, by decide +kernel⟩, ⟨by decide, by decide +kernel⟩, ok_Re_passWords⟩) (fa_cons (⟨⟨"FormatForge$Course", "passWords", "()I"⟩, "FormatForge$Course", ix 783 (by decide +kernel), ix 785 (by decide +kernel), Or.inl (ix 784 (by decide +kernel)), ix 797 (by decide +kernel), Or.inl (ix 796 (by decide +kernel)), ⟨_, rfl, by decide +kernel⟩, ⟨by decide, by decide +kernel⟩, ok_Wr_passWords⟩) (fa_nil))
theorem so_15_60 : sOK 15 60 (5, 1, [(5, m_Re_passRest), (6, m_Wr_passRest)]) := fa_cons (⟨⟨"FormatForge$Course", "passRest", "()I"⟩, "FormatForge$Course", ix 809 (by decide +kernel), ix 811 (by decide +kernel), Or.inl (ix 810 (by decide +kernel)), ix 813 (by decide +kernel), Or.inl (ix 812 (by decide +kernel)), ⟨_, rfl, by decide +kernel⟩, ⟨by decide, by decide +kernel⟩, ok_Re_passRest⟩) (fa_cons (⟨⟨"FormatForge$Course", "passRest", "()I"⟩, "FormatForge$Course", ix 809 (by decide +kernel), ix 811 (by decide +kernel), Or.inl (ix 810 (by decide +kernel)), ix 816 (by decide +kernel), Or.inl (ix 815 (by decide +kernel)), ⟨_, rfl, by decide +kernel⟩, ⟨by decide, by decide +kernel⟩, ok_Wr_passRest⟩) (fa_nil))
theorem so_15_63 : sOK 15 63 (5, 2, [(5, m_Re_passNumber), (6, m_Wr_passNumber)]) := fa_cons (⟨⟨"FormatForge$Course", "passNumber", "(LFormatForge$Node;)I"⟩, "FormatForge$Course", ix 819 (by decide +kernel), ix 821 (by decide +kernel), Or.inl (ix 820 (by decide +kernel)), ix 823 (by decide +kernel), Or.inl (ix 822 (by decide +kernel)), ⟨_, rfl, by decide +kernel⟩, ⟨by decide, by decide +kernel⟩, ok_Re_passNumber⟩) (fa_cons (⟨⟨"FormatForge$Course", "passNumber", "(LFormatForge$Node;)I"⟩, "FormatForge$Course", ix 819 (by decide +kernel), ix 821 (by decide +kernel), Or.inl (ix 820 (by decide +kernel)), ix 827 (by decide +kernel), Or.inl (ix 826 (by decide +kernel)), ⟨_, rfl, by decide +kernel⟩, ⟨by decide, by decide +kernel⟩, ok_Wr_passNumber⟩) (fa_nil))
theorem so_15_70 : sOK 15 70 (5, 1, [(5, m_Re_passSpare), (6, m_Wr_passSpare)]) := fa_cons (⟨⟨"FormatForge$Course", "passSpare", "()I"⟩, "FormatForge$Course", ix 702 (by decide +kernel), ix 704 (by decide +kernel), Or.inl (ix 703 (by decide +kernel)), ix 706 (by decide +kernel), Or.inl (ix 705 (by decide +kernel)), ⟨_, rfl, by decide +kernel⟩, ⟨by decide, by decide +kernel⟩, ok_Re_passSpare⟩) (fa_cons (⟨⟨"FormatForge$Course", "passSpare", "()I"⟩, "FormatForge$Course", ix 702 (by decide +kernel), ix 704 (by decide +kernel), Or.inl (ix 703 (by decide +kernel)), ix 714 (by decide +kernel), Or.inl (ix 713 (by decide +kernel)), ⟨_, rfl, by decide +kernel⟩, ⟨by decide, by decide +kernel⟩, ok_Wr_passSpare⟩) (fa_nil))
theorem so_15_76 : sOK 15 76 (0, 1, [(0, m_Co_told)]) := fa_cons (⟨Or.inl (ix 726 (by decide +kernel)), ix 727 (by decide +kernel), by decide +kernel, ok_Co_told⟩) (fa_nil)
theorem so_15_80 : sOK 15 80 (5, 1, [(5, m_Co_bytesPassed), (6, m_Co_bytesPassed)]) := fa_cons (⟨⟨"FormatForge$Course", "bytesPassed", "()I"⟩, "FormatForge$Course", ix 734 (by decide +kernel), ix 1387 (by decide +kernel), Or.inr rfl, ix 720 (by decide +kernel), Or.inl (ix 1388 (by decide +kernel)), ⟨_, rfl, by decide +kernel⟩, ⟨by decide, by decide +kernel⟩, ok_Co_bytesPassed⟩) (fa_cons (⟨⟨"FormatForge$Course", "bytesPassed", "()I"⟩, "FormatForge$Course", ix 734 (by decide +kernel), ix 1387 (by decide +kernel), Or.inr rfl, ix 720 (by decide +kernel), Or.inl (ix 1389 (by decide +kernel)), ⟨_, rfl, by decide +kernel⟩, ⟨by decide, by decide +kernel⟩, ok_Co_bytesPassed⟩) (fa_nil))
theorem so_15 : ∀ e ∈ cal_15, sOK 15 e.1 e.2 := fa_cons so_15_3 (fa_cons so_15_21 (fa_cons so_15_27 (fa_cons so_15_36 (fa_cons so_15_39 (fa_cons so_15_42 (fa_cons so_15_45 (fa_cons so_15_48 (fa_cons so_15_53 (fa_cons so_15_56 (fa_cons so_15_60 (fa_cons so_15_63 (fa_cons so_15_70 (fa_cons so_15_76 (fa_cons so_15_80 (fa_nil)))))))))))))))
theorem so_16_7 : sOK 16 7 (2, 2, [(7, m_Ff_type)]) := fa_cons (⟨ix 397 (by decide +kernel), ix 398 (by decide +kernel), ix 399 (by decide +kernel), ⟨_, rfl, by decide +kernel⟩, ⟨by decide, rfl⟩, ok_Ff_type⟩) (fa_nil)
theorem so_16_17 : sOK 16 17 (2, 1, [(7, m_Ff_compile)]) := fa_cons (⟨ix 501 (by decide +kernel), ix 502 (by decide +kernel), ix 503 (by decide +kernel), ⟨_, rfl, by decide +kernel⟩, ⟨by decide, rfl⟩, ok_Ff_compile⟩) (fa_nil)
theorem so_16_23 : sOK 16 23 (2, 2, [(7, m_Ff_size)]) := fa_cons (⟨ix 595 (by decide +kernel), ix 596 (by decide +kernel), ix 597 (by decide +kernel), ⟨_, rfl, by decide +kernel⟩, ⟨by decide, rfl⟩, ok_Ff_size⟩) (fa_nil)
theorem so_16_29 : sOK 16 29 (2, 3, [(7, m_Ff_put)]) := fa_cons (⟨ix 622 (by decide +kernel), ix 623 (by decide +kernel), ix 624 (by decide +kernel), ⟨_, rfl, by decide +kernel⟩, ⟨by decide, rfl⟩, ok_Ff_put⟩) (fa_nil)
theorem so_16_33 : sOK 16 33 (2, 2, [(7, m_Ff_cut)]) := fa_cons (⟨ix 631 (by decide +kernel), ix 632 (by decide +kernel), ix 633 (by decide +kernel), ⟨_, rfl, by decide +kernel⟩, ⟨by decide, rfl⟩, ok_Ff_cut⟩) (fa_nil)
theorem so_16_37 : sOK 16 37 (2, 1, [(7, m_Ff_read)]) := fa_cons (⟨ix 644 (by decide +kernel), ix 645 (by decide +kernel), ix 646 (by decide +kernel), ⟨_, rfl, by decide +kernel⟩, ⟨by decide, rfl⟩, ok_Ff_read⟩) (fa_nil)
theorem so_16_42 : sOK 16 42 (2, 1, [(7, m_Ff_write)]) := fa_cons (⟨ix 866 (by decide +kernel), ix 867 (by decide +kernel), ix 868 (by decide +kernel), ⟨_, rfl, by decide +kernel⟩, ⟨by decide, rfl⟩, ok_Ff_write⟩) (fa_nil)
theorem so_16_45 : sOK 16 45 (2, 2, [(7, m_Ff_value)]) := fa_cons (⟨ix 905 (by decide +kernel), ix 906 (by decide +kernel), ix 907 (by decide +kernel), ⟨_, rfl, by decide +kernel⟩, ⟨by decide, rfl⟩, ok_Ff_value⟩) (fa_nil)
theorem so_16_49 : sOK 16 49 (2, 2, [(7, m_Ff_real)]) := fa_cons (⟨ix 918 (by decide +kernel), ix 919 (by decide +kernel), ix 920 (by decide +kernel), ⟨_, rfl, by decide +kernel⟩, ⟨by decide, rfl⟩, ok_Ff_real⟩) (fa_nil)
theorem so_16_53 : sOK 16 53 (2, 3, [(7, m_Ff_set)]) := fa_cons (⟨ix 934 (by decide +kernel), ix 935 (by decide +kernel), ix 936 (by decide +kernel), ⟨_, rfl, by decide +kernel⟩, ⟨by decide, rfl⟩, ok_Ff_set⟩) (fa_nil)
theorem so_16_57 : sOK 16 57 (2, 3, [(7, m_Ff_drop)]) := fa_cons (⟨ix 948 (by decide +kernel), ix 949 (by decide +kernel), ix 950 (by decide +kernel), ⟨_, rfl, by decide +kernel⟩, ⟨by decide, rfl⟩, ok_Ff_drop⟩) (fa_nil)
theorem so_16_61 : sOK 16 61 (2, 2, [(7, m_Ff_byteAt)]) := fa_cons (⟨ix 960 (by decide +kernel), ix 961 (by decide +kernel), ix 962 (by decide +kernel), ⟨_, rfl, by decide +kernel⟩, ⟨by decide, rfl⟩, ok_Ff_byteAt⟩) (fa_nil)
theorem so_16_64 : sOK 16 64 (2, 2, [(7, m_Ff_count)]) := fa_cons (⟨ix 969 (by decide +kernel), ix 970 (by decide +kernel), ix 971 (by decide +kernel), ⟨_, rfl, by decide +kernel⟩, ⟨by decide, rfl⟩, ok_Ff_count⟩) (fa_nil)
theorem so_16_67 : sOK 16 67 (1, 1, [(7, m_Ff_init)]) := fa_cons (⟨Or.inl (ix 91 (by decide +kernel)), ix 92 (by decide +kernel), ⟨_, rfl, by decide +kernel⟩, ⟨rfl, rfl⟩, ok_Ff_init⟩) (fa_nil)
theorem so_16_70 : sOK 16 70 (1, 1, [(8, m_Mo_init)]) := fa_cons (⟨Or.inl (ix 976 (by decide +kernel)), ix 977 (by decide +kernel), ⟨_, rfl, by decide +kernel⟩, ⟨rfl, rfl⟩, ok_Mo_init⟩) (fa_nil)
theorem so_16_73 : sOK 16 73 (0, 3, [(0, m_La_type)]) := fa_cons (⟨Or.inl (ix 392 (by decide +kernel)), ix 393 (by decide +kernel), by decide +kernel, ok_La_type⟩) (fa_nil)
theorem so_16_78 : sOK 16 78 (2, 2, [(8, m_Mo_type)]) := fa_cons (⟨ix 1133 (by decide +kernel), ix 1134 (by decide +kernel), ix 1135 (by decide +kernel), ⟨_, rfl, by decide +kernel⟩, ⟨by decide, rfl⟩, ok_Mo_type⟩) (fa_nil)
theorem so_16_79 : sOK 16 79 (2, 1, [(8, m_Mo_thrown)]) := fa_cons (⟨ix 1129 (by decide +kernel), ix 1130 (by decide +kernel), ix 1131 (by decide +kernel), ⟨_, rfl, by decide +kernel⟩, ⟨by decide, rfl⟩, ok_Mo_thrown⟩) (fa_nil)
theorem so_16_82 : sOK 16 82 (2, 1, [(7, m_Ff_clear)]) := fa_cons (⟨ix 263 (by decide +kernel), ix 264 (by decide +kernel), ix 265 (by decide +kernel), ⟨_, rfl, by decide +kernel⟩, ⟨by decide, rfl⟩, ok_Ff_clear⟩) (fa_nil)
theorem so_16_85 : sOK 16 85 (2, 1, [(8, m_Mo_clear)]) := fa_cons (⟨ix 1141 (by decide +kernel), ix 1142 (by decide +kernel), ix 1143 (by decide +kernel), ⟨_, rfl, by decide +kernel⟩, ⟨by decide, rfl⟩, ok_Mo_clear⟩) (fa_nil)
theorem so_16_86 : sOK 16 86 (2, 1, [(7, m_Ff_fault)]) := fa_cons (⟨ix 271 (by decide +kernel), ix 272 (by decide +kernel), ix 273 (by decide +kernel), ⟨_, rfl, by decide +kernel⟩, ⟨by decide, rfl⟩, ok_Ff_fault⟩) (fa_nil)
theorem so_16_89 : sOK 16 89 (2, 1, [(8, m_Mo_fault)]) := fa_cons (⟨ix 1145 (by decide +kernel), ix 1146 (by decide +kernel), ix 1147 (by decide +kernel), ⟨_, rfl, by decide +kernel⟩, ⟨by decide, rfl⟩, ok_Mo_fault⟩) (fa_nil)
theorem so_16_90 : sOK 16 90 (0, 2, [(0, m_La_compile)]) := fa_cons (⟨Or.inl (ix 497 (by decide +kernel)), ix 498 (by decide +kernel), by decide +kernel, ok_La_compile⟩) (fa_nil)
theorem so_16_93 : sOK 16 93 (2, 1, [(8, m_Mo_compile)]) := fa_cons (⟨ix 1201 (by decide +kernel), ix 1202 (by decide +kernel), ix 1203 (by decide +kernel), ⟨_, rfl, by decide +kernel⟩, ⟨by decide, rfl⟩, ok_Mo_compile⟩) (fa_nil)
theorem so_16_94 : sOK 16 94 (0, 3, [(0, m_La_size)]) := fa_cons (⟨Or.inl (ix 591 (by decide +kernel)), ix 592 (by decide +kernel), by decide +kernel, ok_La_size⟩) (fa_nil)
theorem so_16_97 : sOK 16 97 (2, 2, [(8, m_Mo_size)]) := fa_cons (⟨ix 1244 (by decide +kernel), ix 1245 (by decide +kernel), ix 1246 (by decide +kernel), ⟨_, rfl, by decide +kernel⟩, ⟨by decide, rfl⟩, ok_Mo_size⟩) (fa_nil)
theorem so_16_98 : sOK 16 98 (0, 4, [(0, m_La_put)]) := fa_cons (⟨Or.inl (ix 619 (by decide +kernel)), ix 620 (by decide +kernel), by decide +kernel, ok_La_put⟩) (fa_nil)
theorem so_16_101 : sOK 16 101 (2, 3, [(8, m_Mo_put)]) := fa_cons (⟨ix 1252 (by decide +kernel), ix 1253 (by decide +kernel), ix 1254 (by decide +kernel), ⟨_, rfl, by decide +kernel⟩, ⟨by decide, rfl⟩, ok_Mo_put⟩) (fa_nil)
theorem so_16_102 : sOK 16 102 (0, 3, [(0, m_La_cut)]) := fa_cons (⟨Or.inl (ix 628 (by decide +kernel)), ix 629 (by decide +kernel), by decide +kernel, ok_La_cut⟩) (fa_nil)
theorem so_16_105 : sOK 16 105 (2, 2, [(8, m_Mo_cut)]) := fa_cons (⟨ix 1256 (by decide +kernel), ix 1257 (by decide +kernel), ix 1258 (by decide +kernel), ⟨_, rfl, by decide +kernel⟩, ⟨by decide, rfl⟩, ok_Mo_cut⟩) (fa_nil)
theorem so_16_106 : sOK 16 106 (0, 2, [(0, m_La_read)]) := fa_cons (⟨Or.inl (ix 640 (by decide +kernel)), ix 641 (by decide +kernel), by decide +kernel, ok_La_read⟩) (fa_nil)
theorem so_16_108 : sOK 16 108 (2, 1, [(8, m_Mo_read)]) := fa_cons (⟨ix 1260 (by decide +kernel), ix 1261 (by decide +kernel), ix 1262 (by decide +kernel), ⟨_, rfl, by decide +kernel⟩, ⟨by decide, rfl⟩, ok_Mo_read⟩) (fa_nil)
theorem so_16_109 : sOK 16 109 (0, 2, [(0, m_La_write)]) := fa_cons (⟨Or.inl (ix 863 (by decide +kernel)), ix 864 (by decide +kernel), by decide +kernel, ok_La_write⟩) (fa_nil)
theorem so_16_111 : sOK 16 111 (2, 1, [(8, m_Mo_write)]) := fa_cons (⟨ix 1342 (by decide +kernel), ix 1343 (by decide +kernel), ix 1344 (by decide +kernel), ⟨_, rfl, by decide +kernel⟩, ⟨by decide, rfl⟩, ok_Mo_write⟩) (fa_nil)
theorem so_16_112 : sOK 16 112 (0, 3, [(0, m_La_value)]) := fa_cons (⟨Or.inl (ix 902 (by decide +kernel)), ix 903 (by decide +kernel), by decide +kernel, ok_La_value⟩) (fa_nil)
theorem so_16_114 : sOK 16 114 (2, 2, [(8, m_Mo_value)]) := fa_cons (⟨ix 1346 (by decide +kernel), ix 1347 (by decide +kernel), ix 1348 (by decide +kernel), ⟨_, rfl, by decide +kernel⟩, ⟨by decide, rfl⟩, ok_Mo_value⟩) (fa_nil)
theorem so_16_115 : sOK 16 115 (0, 3, [(0, m_La_real)]) := fa_cons (⟨Or.inl (ix 915 (by decide +kernel)), ix 916 (by decide +kernel), by decide +kernel, ok_La_real⟩) (fa_nil)
theorem so_16_118 : sOK 16 118 (2, 2, [(8, m_Mo_real)]) := fa_cons (⟨ix 1354 (by decide +kernel), ix 1355 (by decide +kernel), ix 1356 (by decide +kernel), ⟨_, rfl, by decide +kernel⟩, ⟨by decide, rfl⟩, ok_Mo_real⟩) (fa_nil)
theorem so_16_119 : sOK 16 119 (0, 4, [(0, m_La_set)]) := fa_cons (⟨Or.inl (ix 931 (by decide +kernel)), ix 932 (by decide +kernel), by decide +kernel, ok_La_set⟩) (fa_nil)
theorem so_16_122 : sOK 16 122 (2, 3, [(8, m_Mo_set)]) := fa_cons (⟨ix 1364 (by decide +kernel), ix 1365 (by decide +kernel), ix 1366 (by decide +kernel), ⟨_, rfl, by decide +kernel⟩, ⟨by decide, rfl⟩, ok_Mo_set⟩) (fa_nil)
theorem so_16_123 : sOK 16 123 (0, 4, [(0, m_La_drop)]) := fa_cons (⟨Or.inl (ix 945 (by decide +kernel)), ix 946 (by decide +kernel), by decide +kernel, ok_La_drop⟩) (fa_nil)
theorem so_16_126 : sOK 16 126 (2, 3, [(8, m_Mo_drop)]) := fa_cons (⟨ix 1368 (by decide +kernel), ix 1369 (by decide +kernel), ix 1370 (by decide +kernel), ⟨_, rfl, by decide +kernel⟩, ⟨by decide, rfl⟩, ok_Mo_drop⟩) (fa_nil)
theorem so_16_127 : sOK 16 127 (0, 3, [(0, m_La_byteAt)]) := fa_cons (⟨Or.inl (ix 957 (by decide +kernel)), ix 958 (by decide +kernel), by decide +kernel, ok_La_byteAt⟩) (fa_nil)
theorem so_16_129 : sOK 16 129 (2, 2, [(8, m_Mo_byteAt)]) := fa_cons (⟨ix 1372 (by decide +kernel), ix 1373 (by decide +kernel), ix 1374 (by decide +kernel), ⟨_, rfl, by decide +kernel⟩, ⟨by decide, rfl⟩, ok_Mo_byteAt⟩) (fa_nil)
theorem so_16_130 : sOK 16 130 (0, 3, [(0, m_La_count)]) := fa_cons (⟨Or.inl (ix 966 (by decide +kernel)), ix 967 (by decide +kernel), by decide +kernel, ok_La_count⟩) (fa_nil)
theorem so_16_132 : sOK 16 132 (2, 2, [(8, m_Mo_count)]) := fa_cons (⟨ix 1376 (by decide +kernel), ix 1377 (by decide +kernel), ix 1378 (by decide +kernel), ⟨_, rfl, by decide +kernel⟩, ⟨by decide, rfl⟩, ok_Mo_count⟩) (fa_nil)
theorem so_16 : ∀ e ∈ cal_16, sOK 16 e.1 e.2 := fa_cons so_16_7 (fa_cons so_16_17 (fa_cons so_16_23 (fa_cons so_16_29 (fa_cons so_16_33 (fa_cons so_16_37 (fa_cons so_16_42 (fa_cons so_16_45 (fa_cons so_16_49 (fa_cons so_16_53 (fa_cons so_16_57 (fa_cons so_16_61 (fa_cons so_16_64 (fa_cons so_16_67 (fa_cons so_16_70 (fa_cons so_16_73 (fa_cons so_16_78 (fa_cons so_16_79 (fa_cons so_16_82 (fa_cons so_16_85 (fa_cons so_16_86 (fa_cons so_16_89 (fa_cons so_16_90 (fa_cons so_16_93 (fa_cons so_16_94 (fa_cons so_16_97 (fa_cons so_16_98 (fa_cons so_16_101 (fa_cons so_16_102 (fa_cons so_16_105 (fa_cons so_16_106 (fa_cons so_16_108 (fa_cons so_16_109 (fa_cons so_16_111 (fa_cons so_16_112 (fa_cons so_16_114 (fa_cons so_16_115 (fa_cons so_16_118 (fa_cons so_16_119 (fa_cons so_16_122 (fa_cons so_16_123 (fa_cons so_16_126 (fa_cons so_16_127 (fa_cons so_16_129 (fa_cons so_16_130 (fa_cons so_16_132 (fa_nil))))))))))))))))))))))))))))))))))))))))))))))
theorem so_17 : ∀ e ∈ cal_17, sOK 17 e.1 e.2 := fa_nil
theorem lookup_mem {β : Type} {k : Nat} {v : β} : ∀ {l : List (Nat × β)}, l.lookup k = some v → (k, v) ∈ l
  | (a, b) :: l, h => by
    rw [List.lookup_cons] at h
    by_cases e : k = a
    · subst e
      simp at h
      subst h
      exact List.mem_cons_self
    · have e' : (k == a) = false := by simpa using e
      rw [e'] at h
      exact List.mem_cons_of_mem _ (lookup_mem h)
theorem sites_ok {c k : Nat} {v : Nat × Nat × List (Nat × Mr)} (h : calOf c k = some v) : sOK c k v := by
  have hm := lookup_mem h
  unfold calL at hm
  split at hm
  · exact so_0 _ hm
  · exact so_1 _ hm
  · exact so_2 _ hm
  · exact so_3 _ hm
  · exact so_4 _ hm
  · exact so_5 _ hm
  · exact so_6 _ hm
  · exact so_7 _ hm
  · exact so_8 _ hm
  · exact so_9 _ hm
  · exact so_10 _ hm
  · exact so_11 _ hm
  · exact so_12 _ hm
  · exact so_13 _ hm
  · exact so_15 _ hm
  · exact so_16 _ hm
  · exact so_17 _ hm
  · cases hm
theorem fo_0_7 : fOK 0 7 ([0], 0, 2, true, "FormatForge$Bytes") := fa_cons ⟨_, rfl, by decide, ix 103 (by decide +kernel), Or.inl rfl, rfl, rfl, fun _ => by first | rfl | contradiction, by decide⟩ (fa_nil)
theorem fo_0_13 : fOK 0 13 ([0], 1, 0, false, "FormatForge$Bytes") := fa_cons ⟨_, rfl, by decide, ix 104 (by decide +kernel), Or.inl rfl, rfl, rfl, fun _ => by first | rfl | contradiction, by decide⟩ (fa_nil)
theorem fo_0 : ∀ e ∈ fld_0, fOK 0 e.1 e.2 := fa_cons fo_0_7 (fa_cons fo_0_13 (fa_nil))
theorem fo_1_7 : fOK 1 7 ([1], 0, 2, true, "FormatForge$Longs") := fa_cons ⟨_, rfl, by decide, ix 120 (by decide +kernel), Or.inl rfl, rfl, rfl, fun _ => by first | rfl | contradiction, by decide⟩ (fa_nil)
theorem fo_1_13 : fOK 1 13 ([1], 1, 0, false, "FormatForge$Longs") := fa_cons ⟨_, rfl, by decide, ix 121 (by decide +kernel), Or.inl rfl, rfl, rfl, fun _ => by first | rfl | contradiction, by decide⟩ (fa_nil)
theorem fo_1 : ∀ e ∈ fld_1, fOK 1 e.1 e.2 := fa_cons fo_1_7 (fa_cons fo_1_13 (fa_nil))
theorem fo_2_9 : fOK 2 9 ([2], 0, 0, false, "FormatForge$Node") := fa_cons ⟨_, rfl, by decide, ix 143 (by decide +kernel), Or.inl rfl, rfl, rfl, fun _ => by first | rfl | contradiction, by decide⟩ (fa_nil)
theorem fo_2_15 : fOK 2 15 ([2], 6, 2, false, "FormatForge$Node") := fa_cons ⟨_, rfl, by decide, ix 167 (by decide +kernel), Or.inl rfl, rfl, rfl, fun _ => by first | rfl | contradiction, by decide⟩ (fa_nil)
theorem fo_2_19 : fOK 2 19 ([2], 2, 0, false, "FormatForge$Node") := fa_cons ⟨_, rfl, by decide, ix 153 (by decide +kernel), Or.inl rfl, rfl, rfl, fun _ => by first | rfl | contradiction, by decide⟩ (fa_nil)
theorem fo_2_22 : fOK 2 22 ([2], 1, 0, false, "FormatForge$Node") := fa_cons ⟨_, rfl, by decide, ix 151 (by decide +kernel), Or.inl rfl, rfl, rfl, fun _ => by first | rfl | contradiction, by decide⟩ (fa_nil)
theorem fo_2_25 : fOK 2 25 ([2], 3, 0, false, "FormatForge$Node") := fa_cons ⟨_, rfl, by decide, ix 157 (by decide +kernel), Or.inl rfl, rfl, rfl, fun _ => by first | rfl | contradiction, by decide⟩ (fa_nil)
theorem fo_2_28 : fOK 2 28 ([2], 4, 0, false, "FormatForge$Node") := fa_cons ⟨_, rfl, by decide, ix 161 (by decide +kernel), Or.inl rfl, rfl, rfl, fun _ => by first | rfl | contradiction, by decide⟩ (fa_nil)
theorem fo_2_31 : fOK 2 31 ([2], 5, 2, false, "FormatForge$Node") := fa_cons ⟨_, rfl, by decide, ix 164 (by decide +kernel), Or.inl rfl, rfl, rfl, fun _ => by first | rfl | contradiction, by decide⟩ (fa_nil)
theorem fo_2_34 : fOK 2 34 ([2], 7, 2, false, "FormatForge$Node") := fa_cons ⟨_, rfl, by decide, ix 169 (by decide +kernel), Or.inl rfl, rfl, rfl, fun _ => by first | rfl | contradiction, by decide⟩ (fa_nil)
theorem fo_2_37 : fOK 2 37 ([2], 8, 2, false, "FormatForge$Node") := fa_cons ⟨_, rfl, by decide, ix 171 (by decide +kernel), Or.inl rfl, rfl, rfl, fun _ => by first | rfl | contradiction, by decide⟩ (fa_nil)
theorem fo_2_40 : fOK 2 40 ([2], 9, 2, false, "FormatForge$Node") := fa_cons ⟨_, rfl, by decide, ix 174 (by decide +kernel), Or.inl rfl, rfl, rfl, fun _ => by first | rfl | contradiction, by decide⟩ (fa_nil)
theorem fo_2_43 : fOK 2 43 ([2], 10, 2, false, "FormatForge$Node") := fa_cons ⟨_, rfl, by decide, ix 177 (by decide +kernel), Or.inl rfl, rfl, rfl, fun _ => by first | rfl | contradiction, by decide⟩ (fa_nil)
theorem fo_2_46 : fOK 2 46 ([2], 11, 1, false, "FormatForge$Node") := fa_cons ⟨_, rfl, by decide, ix 178 (by decide +kernel), Or.inl rfl, rfl, rfl, fun _ => by first | rfl | contradiction, by decide⟩ (fa_nil)
theorem fo_2_50 : fOK 2 50 ([2], 12, 1, false, "FormatForge$Node") := fa_cons ⟨_, rfl, by decide, ix 181 (by decide +kernel), Or.inl rfl, rfl, rfl, fun _ => by first | rfl | contradiction, by decide⟩ (fa_nil)
theorem fo_2_53 : fOK 2 53 ([2], 13, 1, false, "FormatForge$Node") := fa_cons ⟨_, rfl, by decide, ix 184 (by decide +kernel), Or.inl rfl, rfl, rfl, fun _ => by first | rfl | contradiction, by decide⟩ (fa_nil)
theorem fo_2_56 : fOK 2 56 ([2], 14, 1, false, "FormatForge$Node") := fa_cons ⟨_, rfl, by decide, ix 186 (by decide +kernel), Or.inl rfl, rfl, rfl, fun _ => by first | rfl | contradiction, by decide⟩ (fa_nil)
theorem fo_2_59 : fOK 2 59 ([2], 15, 1, false, "FormatForge$Node") := fa_cons ⟨_, rfl, by decide, ix 188 (by decide +kernel), Or.inl rfl, rfl, rfl, fun _ => by first | rfl | contradiction, by decide⟩ (fa_nil)
theorem fo_2 : ∀ e ∈ fld_2, fOK 2 e.1 e.2 := fa_cons fo_2_9 (fa_cons fo_2_15 (fa_cons fo_2_19 (fa_cons fo_2_22 (fa_cons fo_2_25 (fa_cons fo_2_28 (fa_cons fo_2_31 (fa_cons fo_2_34 (fa_cons fo_2_37 (fa_cons fo_2_40 (fa_cons fo_2_43 (fa_cons fo_2_46 (fa_cons fo_2_50 (fa_cons fo_2_53 (fa_cons fo_2_56 (fa_cons fo_2_59 (fa_nil))))))))))))))))
theorem fo_3_11 : fOK 3 11 ([3], 0, 2, true, "FormatForge$Format") := fa_cons ⟨_, rfl, by decide, ix 225 (by decide +kernel), Or.inl rfl, rfl, rfl, fun _ => by first | rfl | contradiction, by decide⟩ (fa_nil)
theorem fo_3_18 : fOK 3 18 ([3], 1, 0, false, "FormatForge$Format") := fa_cons ⟨_, rfl, by decide, ix 226 (by decide +kernel), Or.inl rfl, rfl, rfl, fun _ => by first | rfl | contradiction, by decide⟩ (fa_nil)
theorem fo_3_30 : fOK 3 30 ([2], 13, 1, false, "FormatForge$Node") := fa_cons ⟨_, rfl, by decide, ix 185 (by decide +kernel), Or.inl rfl, rfl, rfl, fun _ => by first | rfl | contradiction, by decide⟩ (fa_nil)
theorem fo_3_34 : fOK 3 34 ([2], 14, 1, false, "FormatForge$Node") := fa_cons ⟨_, rfl, by decide, ix 187 (by decide +kernel), Or.inl rfl, rfl, rfl, fun _ => by first | rfl | contradiction, by decide⟩ (fa_nil)
theorem fo_3_41 : fOK 3 41 ([2], 11, 1, false, "FormatForge$Node") := fa_cons ⟨_, rfl, by decide, ix 180 (by decide +kernel), Or.inl rfl, rfl, rfl, fun _ => by first | rfl | contradiction, by decide⟩ (fa_nil)
theorem fo_3_44 : fOK 3 44 ([2], 12, 1, false, "FormatForge$Node") := fa_cons ⟨_, rfl, by decide, ix 183 (by decide +kernel), Or.inl rfl, rfl, rfl, fun _ => by first | rfl | contradiction, by decide⟩ (fa_nil)
theorem fo_3_59 : fOK 3 59 ([2], 0, 0, false, "FormatForge$Node") := fa_cons ⟨_, rfl, by decide, ix 147 (by decide +kernel), Or.inl rfl, rfl, rfl, fun _ => by first | rfl | contradiction, by decide⟩ (fa_nil)
theorem fo_3_66 : fOK 3 66 ([2], 6, 2, false, "FormatForge$Node") := fa_cons ⟨_, rfl, by decide, ix 168 (by decide +kernel), Or.inl rfl, rfl, rfl, fun _ => by first | rfl | contradiction, by decide⟩ (fa_nil)
theorem fo_3_73 : fOK 3 73 ([2], 8, 2, false, "FormatForge$Node") := fa_cons ⟨_, rfl, by decide, ix 172 (by decide +kernel), Or.inl rfl, rfl, rfl, fun _ => by first | rfl | contradiction, by decide⟩ (fa_nil)
theorem fo_3_84 : fOK 3 84 ([2], 5, 2, false, "FormatForge$Node") := fa_cons ⟨_, rfl, by decide, ix 165 (by decide +kernel), Or.inl rfl, rfl, rfl, fun _ => by first | rfl | contradiction, by decide⟩ (fa_nil)
theorem fo_3_90 : fOK 3 90 ([2], 4, 0, false, "FormatForge$Node") := fa_cons ⟨_, rfl, by decide, ix 163 (by decide +kernel), Or.inl rfl, rfl, rfl, fun _ => by first | rfl | contradiction, by decide⟩ (fa_nil)
theorem fo_3_97 : fOK 3 97 ([2], 7, 2, false, "FormatForge$Node") := fa_cons ⟨_, rfl, by decide, ix 170 (by decide +kernel), Or.inl rfl, rfl, rfl, fun _ => by first | rfl | contradiction, by decide⟩ (fa_nil)
theorem fo_3_100 : fOK 3 100 ([2], 2, 0, false, "FormatForge$Node") := fa_cons ⟨_, rfl, by decide, ix 156 (by decide +kernel), Or.inl rfl, rfl, rfl, fun _ => by first | rfl | contradiction, by decide⟩ (fa_nil)
theorem fo_3_106 : fOK 3 106 ([2], 9, 2, false, "FormatForge$Node") := fa_cons ⟨_, rfl, by decide, ix 176 (by decide +kernel), Or.inl rfl, rfl, rfl, fun _ => by first | rfl | contradiction, by decide⟩ (fa_nil)
theorem fo_3_109 : fOK 3 109 ([2], 3, 0, false, "FormatForge$Node") := fa_cons ⟨_, rfl, by decide, ix 159 (by decide +kernel), Or.inl rfl, rfl, rfl, fun _ => by first | rfl | contradiction, by decide⟩ (fa_nil)
theorem fo_3_129 : fOK 3 129 ([2], 1, 0, false, "FormatForge$Node") := fa_cons ⟨_, rfl, by decide, ix 152 (by decide +kernel), Or.inl rfl, rfl, rfl, fun _ => by first | rfl | contradiction, by decide⟩ (fa_nil)
theorem fo_3 : ∀ e ∈ fld_3, fOK 3 e.1 e.2 := fa_cons fo_3_11 (fa_cons fo_3_18 (fa_cons fo_3_30 (fa_cons fo_3_34 (fa_cons fo_3_41 (fa_cons fo_3_44 (fa_cons fo_3_59 (fa_cons fo_3_66 (fa_cons fo_3_73 (fa_cons fo_3_84 (fa_cons fo_3_90 (fa_cons fo_3_97 (fa_cons fo_3_100 (fa_cons fo_3_106 (fa_cons fo_3_109 (fa_cons fo_3_129 (fa_nil))))))))))))))))
theorem fo_4_9 : fOK 4 9 ([4], 0, 2, true, "FormatForge$Parser") := fa_cons ⟨_, rfl, by decide, ix 281 (by decide +kernel), Or.inl rfl, rfl, rfl, fun _ => by first | rfl | contradiction, by decide⟩ (fa_nil)
theorem fo_4_15 : fOK 4 15 ([4], 1, 2, true, "FormatForge$Parser") := fa_cons ⟨_, rfl, by decide, ix 282 (by decide +kernel), Or.inl rfl, rfl, rfl, fun _ => by first | rfl | contradiction, by decide⟩ (fa_nil)
theorem fo_4_19 : fOK 4 19 ([4], 2, 0, false, "FormatForge$Parser") := fa_cons ⟨_, rfl, by decide, ix 283 (by decide +kernel), Or.inl rfl, rfl, rfl, fun _ => by first | rfl | contradiction, by decide⟩ (fa_nil)
theorem fo_4_32 : fOK 4 32 ([0], 1, 0, false, "FormatForge$Bytes") := fa_cons ⟨_, rfl, by decide, ix 106 (by decide +kernel), Or.inl rfl, rfl, rfl, fun _ => by first | rfl | contradiction, by decide⟩ (fa_nil)
theorem fo_4_53 : fOK 4 53 ([2], 0, 0, false, "FormatForge$Node") := fa_cons ⟨_, rfl, by decide, ix 146 (by decide +kernel), Or.inl rfl, rfl, rfl, fun _ => by first | rfl | contradiction, by decide⟩ (fa_nil)
theorem fo_4_65 : fOK 4 65 ([2], 2, 0, false, "FormatForge$Node") := fa_cons ⟨_, rfl, by decide, ix 154 (by decide +kernel), Or.inl rfl, rfl, rfl, fun _ => by first | rfl | contradiction, by decide⟩ (fa_nil)
theorem fo_4_105 : fOK 4 105 ([2], 3, 0, false, "FormatForge$Node") := fa_cons ⟨_, rfl, by decide, ix 158 (by decide +kernel), Or.inl rfl, rfl, rfl, fun _ => by first | rfl | contradiction, by decide⟩ (fa_nil)
theorem fo_4_108 : fOK 4 108 ([2], 4, 0, false, "FormatForge$Node") := fa_cons ⟨_, rfl, by decide, ix 162 (by decide +kernel), Or.inl rfl, rfl, rfl, fun _ => by first | rfl | contradiction, by decide⟩ (fa_nil)
theorem fo_4 : ∀ e ∈ fld_4, fOK 4 e.1 e.2 := fa_cons fo_4_9 (fa_cons fo_4_15 (fa_cons fo_4_19 (fa_cons fo_4_32 (fa_cons fo_4_53 (fa_cons fo_4_65 (fa_cons fo_4_105 (fa_cons fo_4_108 (fa_nil))))))))
theorem fo_5_9 : fOK 5 9 ([5], 3, 2, true, "FormatForge$Reading") := fa_cons ⟨_, rfl, by decide, ix 665 (by decide +kernel), Or.inl rfl, rfl, rfl, fun _ => by first | rfl | contradiction, by decide⟩ (fa_nil)
theorem fo_5_15 : fOK 5 15 ([5], 4, 2, true, "FormatForge$Reading") := fa_cons ⟨_, rfl, by decide, ix 666 (by decide +kernel), Or.inl rfl, rfl, rfl, fun _ => by first | rfl | contradiction, by decide⟩ (fa_nil)
theorem fo_5_23 : fOK 5 23 ([2], 1, 0, false, "FormatForge$Node") := fa_cons ⟨_, rfl, by decide, ix 149 (by decide +kernel), Or.inl rfl, rfl, rfl, fun _ => by first | rfl | contradiction, by decide⟩ (fa_nil)
theorem fo_5_29 : fOK 5 29 ([0], 1, 0, false, "FormatForge$Bytes") := fa_cons ⟨_, rfl, by decide, ix 105 (by decide +kernel), Or.inl rfl, rfl, rfl, fun _ => by first | rfl | contradiction, by decide⟩ (fa_nil)
theorem fo_5_34 : fOK 5 34 ([2], 0, 0, false, "FormatForge$Node") := fa_cons ⟨_, rfl, by decide, ix 145 (by decide +kernel), Or.inl rfl, rfl, rfl, fun _ => by first | rfl | contradiction, by decide⟩ (fa_nil)
theorem fo_5_45 : fOK 5 45 ([5], 0, 0, false, "FormatForge$Reading") := fa_cons ⟨_, rfl, by decide, ix 668 (by decide +kernel), Or.inr (ix 669 (by decide +kernel)), rfl, rfl, fun _ => by first | rfl | contradiction, by decide⟩ (fa_nil)
theorem fo_5_68 : fOK 5 68 ([2], 15, 1, false, "FormatForge$Node") := fa_cons ⟨_, rfl, by decide, ix 190 (by decide +kernel), Or.inl rfl, rfl, rfl, fun _ => by first | rfl | contradiction, by decide⟩ (fa_nil)
theorem fo_5 : ∀ e ∈ fld_5, fOK 5 e.1 e.2 := fa_cons fo_5_9 (fa_cons fo_5_15 (fa_cons fo_5_23 (fa_cons fo_5_29 (fa_cons fo_5_34 (fa_cons fo_5_45 (fa_cons fo_5_68 (fa_nil)))))))
theorem fo_6_9 : fOK 6 9 ([6], 3, 2, true, "FormatForge$Writing") := fa_cons ⟨_, rfl, by decide, ix 875 (by decide +kernel), Or.inl rfl, rfl, rfl, fun _ => by first | rfl | contradiction, by decide⟩ (fa_nil)
theorem fo_6_15 : fOK 6 15 ([6], 4, 2, true, "FormatForge$Writing") := fa_cons ⟨_, rfl, by decide, ix 876 (by decide +kernel), Or.inl rfl, rfl, rfl, fun _ => by first | rfl | contradiction, by decide⟩ (fa_nil)
theorem fo_6_19 : fOK 6 19 ([6], 5, 0, false, "FormatForge$Writing") := fa_cons ⟨_, rfl, by decide, ix 877 (by decide +kernel), Or.inl rfl, rfl, rfl, fun _ => by first | rfl | contradiction, by decide⟩ (fa_nil)
theorem fo_6_23 : fOK 6 23 ([6], 6, 1, false, "FormatForge$Writing") := fa_cons ⟨_, rfl, by decide, ix 879 (by decide +kernel), Or.inl rfl, rfl, rfl, fun _ => by first | rfl | contradiction, by decide⟩ (fa_nil)
theorem fo_6_31 : fOK 6 31 ([2], 1, 0, false, "FormatForge$Node") := fa_cons ⟨_, rfl, by decide, ix 150 (by decide +kernel), Or.inl rfl, rfl, rfl, fun _ => by first | rfl | contradiction, by decide⟩ (fa_nil)
theorem fo_6_36 : fOK 6 36 ([2], 0, 0, false, "FormatForge$Node") := fa_cons ⟨_, rfl, by decide, ix 144 (by decide +kernel), Or.inl rfl, rfl, rfl, fun _ => by first | rfl | contradiction, by decide⟩ (fa_nil)
theorem fo_6_66 : fOK 6 66 ([6], 0, 0, false, "FormatForge$Writing") := fa_cons ⟨_, rfl, by decide, ix 670 (by decide +kernel), Or.inr (ix 671 (by decide +kernel)), rfl, rfl, fun _ => by first | rfl | contradiction, by decide⟩ (fa_nil)
theorem fo_6_69 : fOK 6 69 ([2], 11, 1, false, "FormatForge$Node") := fa_cons ⟨_, rfl, by decide, ix 179 (by decide +kernel), Or.inl rfl, rfl, rfl, fun _ => by first | rfl | contradiction, by decide⟩ (fa_nil)
theorem fo_6_72 : fOK 6 72 ([2], 12, 1, false, "FormatForge$Node") := fa_cons ⟨_, rfl, by decide, ix 182 (by decide +kernel), Or.inl rfl, rfl, rfl, fun _ => by first | rfl | contradiction, by decide⟩ (fa_nil)
theorem fo_6_75 : fOK 6 75 ([2], 15, 1, false, "FormatForge$Node") := fa_cons ⟨_, rfl, by decide, ix 189 (by decide +kernel), Or.inl rfl, rfl, rfl, fun _ => by first | rfl | contradiction, by decide⟩ (fa_nil)
theorem fo_6_78 : fOK 6 78 ([1], 1, 0, false, "FormatForge$Longs") := fa_cons ⟨_, rfl, by decide, ix 122 (by decide +kernel), Or.inl rfl, rfl, rfl, fun _ => by first | rfl | contradiction, by decide⟩ (fa_nil)
theorem fo_6 : ∀ e ∈ fld_6, fOK 6 e.1 e.2 := fa_cons fo_6_9 (fa_cons fo_6_15 (fa_cons fo_6_19 (fa_cons fo_6_23 (fa_cons fo_6_31 (fa_cons fo_6_36 (fa_cons fo_6_66 (fa_cons fo_6_69 (fa_cons fo_6_72 (fa_cons fo_6_75 (fa_cons fo_6_78 (fa_nil)))))))))))
theorem fo_7_14 : fOK 7 14 ([7], 0, 2, true, "FormatForge") := fa_cons ⟨_, rfl, by decide, ix 232 (by decide +kernel), Or.inl rfl, rfl, rfl, fun _ => by first | rfl | contradiction, by decide⟩ (fa_nil)
theorem fo_7_18 : fOK 7 18 ([7], 1, 2, true, "FormatForge") := fa_cons ⟨_, rfl, by decide, ix 233 (by decide +kernel), Or.inl rfl, rfl, rfl, fun _ => by first | rfl | contradiction, by decide⟩ (fa_nil)
theorem fo_7_24 : fOK 7 24 ([7], 2, 2, true, "FormatForge") := fa_cons ⟨_, rfl, by decide, ix 234 (by decide +kernel), Or.inl rfl, rfl, rfl, fun _ => by first | rfl | contradiction, by decide⟩ (fa_nil)
theorem fo_7_28 : fOK 7 28 ([7], 3, 2, true, "FormatForge") := fa_cons ⟨_, rfl, by decide, ix 235 (by decide +kernel), Or.inl rfl, rfl, rfl, fun _ => by first | rfl | contradiction, by decide⟩ (fa_nil)
theorem fo_7_31 : fOK 7 31 ([7], 4, 2, true, "FormatForge") := fa_cons ⟨_, rfl, by decide, ix 236 (by decide +kernel), Or.inl rfl, rfl, rfl, fun _ => by first | rfl | contradiction, by decide⟩ (fa_nil)
theorem fo_7_37 : fOK 7 37 ([7], 5, 2, false, "FormatForge") := fa_cons ⟨_, rfl, by decide, ix 237 (by decide +kernel), Or.inl rfl, rfl, rfl, fun _ => by first | rfl | contradiction, by decide⟩ (fa_nil)
theorem fo_7_41 : fOK 7 41 ([7], 6, 2, false, "FormatForge") := fa_cons ⟨_, rfl, by decide, ix 238 (by decide +kernel), Or.inl rfl, rfl, rfl, fun _ => by first | rfl | contradiction, by decide⟩ (fa_nil)
theorem fo_7_44 : fOK 7 44 ([7], 7, 3, false, "FormatForge") := fa_cons ⟨_, rfl, by decide, ix 239 (by decide +kernel), Or.inl rfl, rfl, rfl, fun _ => by first | rfl | contradiction, by decide⟩ (fa_nil)
theorem fo_7_48 : fOK 7 48 ([7], 8, 0, false, "FormatForge") := fa_cons ⟨_, rfl, by decide, ix 240 (by decide +kernel), Or.inl rfl, rfl, rfl, fun _ => by first | rfl | contradiction, by decide⟩ (fa_nil)
theorem fo_7_52 : fOK 7 52 ([7], 9, 0, false, "FormatForge") := fa_cons ⟨_, rfl, by decide, ix 241 (by decide +kernel), Or.inl rfl, rfl, rfl, fun _ => by first | rfl | contradiction, by decide⟩ (fa_nil)
theorem fo_7_78 : fOK 7 78 ([0], 1, 0, false, "FormatForge$Bytes") := fa_cons ⟨_, rfl, by decide, ix 107 (by decide +kernel), Or.inl rfl, rfl, rfl, fun _ => by first | rfl | contradiction, by decide⟩ (fa_nil)
theorem fo_7_153 : fOK 7 153 ([1], 1, 0, false, "FormatForge$Longs") := fa_cons ⟨_, rfl, by decide, ix 123 (by decide +kernel), Or.inl rfl, rfl, rfl, fun _ => by first | rfl | contradiction, by decide⟩ (fa_nil)
theorem fo_7_160 : fOK 7 160 ([6], 5, 0, false, "FormatForge$Writing") := fa_cons ⟨_, rfl, by decide, ix 878 (by decide +kernel), Or.inl rfl, rfl, rfl, fun _ => by first | rfl | contradiction, by decide⟩ (fa_nil)
theorem fo_7_203 : fOK 7 203 ([5, 6], 1, 0, false, "FormatForge$Course") := fa_cons ⟨_, rfl, by decide, ix 673 (by decide +kernel), Or.inl rfl, rfl, rfl, fun _ => by first | rfl | contradiction, by decide⟩ (fa_cons ⟨_, rfl, by decide, ix 673 (by decide +kernel), Or.inl rfl, rfl, rfl, fun _ => by first | rfl | contradiction, by decide⟩ (fa_nil))
theorem fo_7_206 : fOK 7 206 ([5, 6], 2, 0, false, "FormatForge$Course") := fa_cons ⟨_, rfl, by decide, ix 675 (by decide +kernel), Or.inl rfl, rfl, rfl, fun _ => by first | rfl | contradiction, by decide⟩ (fa_cons ⟨_, rfl, by decide, ix 675 (by decide +kernel), Or.inl rfl, rfl, rfl, fun _ => by first | rfl | contradiction, by decide⟩ (fa_nil))
theorem fo_7 : ∀ e ∈ fld_7, fOK 7 e.1 e.2 := fa_cons fo_7_14 (fa_cons fo_7_18 (fa_cons fo_7_24 (fa_cons fo_7_28 (fa_cons fo_7_31 (fa_cons fo_7_37 (fa_cons fo_7_41 (fa_cons fo_7_44 (fa_cons fo_7_48 (fa_cons fo_7_52 (fa_cons fo_7_78 (fa_cons fo_7_153 (fa_cons fo_7_160 (fa_cons fo_7_203 (fa_cons fo_7_206 (fa_nil)))))))))))))))
theorem fo_8_7 : fOK 8 7 ([8], 1, 2, true, "FormatForgeModel") := fa_cons ⟨_, rfl, by decide, ix 981 (by decide +kernel), Or.inl rfl, rfl, rfl, fun _ => by first | rfl | contradiction, by decide⟩ (fa_nil)
theorem fo_8_13 : fOK 8 13 ([8], 3, 2, true, "FormatForgeModel") := fa_cons ⟨_, rfl, by decide, ix 983 (by decide +kernel), Or.inl rfl, rfl, rfl, fun _ => by first | rfl | contradiction, by decide⟩ (fa_nil)
theorem fo_8_16 : fOK 8 16 ([8], 6, 2, true, "FormatForgeModel") := fa_cons ⟨_, rfl, by decide, ix 986 (by decide +kernel), Or.inl rfl, rfl, rfl, fun _ => by first | rfl | contradiction, by decide⟩ (fa_nil)
theorem fo_8_19 : fOK 8 19 ([8], 8, 2, true, "FormatForgeModel") := fa_cons ⟨_, rfl, by decide, ix 988 (by decide +kernel), Or.inl rfl, rfl, rfl, fun _ => by first | rfl | contradiction, by decide⟩ (fa_nil)
theorem fo_8_23 : fOK 8 23 ([8], 10, 0, false, "FormatForgeModel") := fa_cons ⟨_, rfl, by decide, ix 990 (by decide +kernel), Or.inl rfl, rfl, rfl, fun _ => by first | rfl | contradiction, by decide⟩ (fa_nil)
theorem fo_8_27 : fOK 8 27 ([8], 11, 0, false, "FormatForgeModel") := fa_cons ⟨_, rfl, by decide, ix 991 (by decide +kernel), Or.inl rfl, rfl, rfl, fun _ => by first | rfl | contradiction, by decide⟩ (fa_nil)
theorem fo_8_30 : fOK 8 30 ([8], 12, 2, true, "FormatForgeModel") := fa_cons ⟨_, rfl, by decide, ix 992 (by decide +kernel), Or.inl rfl, rfl, rfl, fun _ => by first | rfl | contradiction, by decide⟩ (fa_nil)
theorem fo_8_33 : fOK 8 33 ([8], 13, 2, true, "FormatForgeModel") := fa_cons ⟨_, rfl, by decide, ix 993 (by decide +kernel), Or.inl rfl, rfl, rfl, fun _ => by first | rfl | contradiction, by decide⟩ (fa_nil)
theorem fo_8_36 : fOK 8 36 ([8], 14, 2, true, "FormatForgeModel") := fa_cons ⟨_, rfl, by decide, ix 994 (by decide +kernel), Or.inl rfl, rfl, rfl, fun _ => by first | rfl | contradiction, by decide⟩ (fa_nil)
theorem fo_8_39 : fOK 8 39 ([8], 15, 2, true, "FormatForgeModel") := fa_cons ⟨_, rfl, by decide, ix 995 (by decide +kernel), Or.inl rfl, rfl, rfl, fun _ => by first | rfl | contradiction, by decide⟩ (fa_nil)
theorem fo_8_42 : fOK 8 42 ([8], 16, 2, true, "FormatForgeModel") := fa_cons ⟨_, rfl, by decide, ix 996 (by decide +kernel), Or.inl rfl, rfl, rfl, fun _ => by first | rfl | contradiction, by decide⟩ (fa_nil)
theorem fo_8_45 : fOK 8 45 ([8], 17, 2, true, "FormatForgeModel") := fa_cons ⟨_, rfl, by decide, ix 997 (by decide +kernel), Or.inl rfl, rfl, rfl, fun _ => by first | rfl | contradiction, by decide⟩ (fa_nil)
theorem fo_8_48 : fOK 8 48 ([8], 18, 2, true, "FormatForgeModel") := fa_cons ⟨_, rfl, by decide, ix 998 (by decide +kernel), Or.inl rfl, rfl, rfl, fun _ => by first | rfl | contradiction, by decide⟩ (fa_nil)
theorem fo_8_51 : fOK 8 51 ([8], 19, 2, true, "FormatForgeModel") := fa_cons ⟨_, rfl, by decide, ix 999 (by decide +kernel), Or.inl rfl, rfl, rfl, fun _ => by first | rfl | contradiction, by decide⟩ (fa_nil)
theorem fo_8_54 : fOK 8 54 ([8], 20, 2, true, "FormatForgeModel") := fa_cons ⟨_, rfl, by decide, ix 1000 (by decide +kernel), Or.inl rfl, rfl, rfl, fun _ => by first | rfl | contradiction, by decide⟩ (fa_nil)
theorem fo_8_57 : fOK 8 57 ([8], 21, 2, true, "FormatForgeModel") := fa_cons ⟨_, rfl, by decide, ix 1001 (by decide +kernel), Or.inl rfl, rfl, rfl, fun _ => by first | rfl | contradiction, by decide⟩ (fa_nil)
theorem fo_8_60 : fOK 8 60 ([8], 22, 2, true, "FormatForgeModel") := fa_cons ⟨_, rfl, by decide, ix 1002 (by decide +kernel), Or.inl rfl, rfl, rfl, fun _ => by first | rfl | contradiction, by decide⟩ (fa_nil)
theorem fo_8_63 : fOK 8 63 ([8], 24, 2, true, "FormatForgeModel") := fa_cons ⟨_, rfl, by decide, ix 1004 (by decide +kernel), Or.inl rfl, rfl, rfl, fun _ => by first | rfl | contradiction, by decide⟩ (fa_nil)
theorem fo_8_66 : fOK 8 66 ([8], 25, 2, true, "FormatForgeModel") := fa_cons ⟨_, rfl, by decide, ix 1005 (by decide +kernel), Or.inl rfl, rfl, rfl, fun _ => by first | rfl | contradiction, by decide⟩ (fa_nil)
theorem fo_8_69 : fOK 8 69 ([8], 26, 2, true, "FormatForgeModel") := fa_cons ⟨_, rfl, by decide, ix 1006 (by decide +kernel), Or.inl rfl, rfl, rfl, fun _ => by first | rfl | contradiction, by decide⟩ (fa_nil)
theorem fo_8_72 : fOK 8 72 ([8], 27, 2, true, "FormatForgeModel") := fa_cons ⟨_, rfl, by decide, ix 1007 (by decide +kernel), Or.inl rfl, rfl, rfl, fun _ => by first | rfl | contradiction, by decide⟩ (fa_nil)
theorem fo_8_75 : fOK 8 75 ([8], 29, 2, true, "FormatForgeModel") := fa_cons ⟨_, rfl, by decide, ix 1009 (by decide +kernel), Or.inl rfl, rfl, rfl, fun _ => by first | rfl | contradiction, by decide⟩ (fa_nil)
theorem fo_8_78 : fOK 8 78 ([8], 30, 2, true, "FormatForgeModel") := fa_cons ⟨_, rfl, by decide, ix 1010 (by decide +kernel), Or.inl rfl, rfl, rfl, fun _ => by first | rfl | contradiction, by decide⟩ (fa_nil)
theorem fo_8_81 : fOK 8 81 ([8], 31, 2, true, "FormatForgeModel") := fa_cons ⟨_, rfl, by decide, ix 1011 (by decide +kernel), Or.inl rfl, rfl, rfl, fun _ => by first | rfl | contradiction, by decide⟩ (fa_nil)
theorem fo_8_84 : fOK 8 84 ([8], 32, 2, true, "FormatForgeModel") := fa_cons ⟨_, rfl, by decide, ix 1012 (by decide +kernel), Or.inl rfl, rfl, rfl, fun _ => by first | rfl | contradiction, by decide⟩ (fa_nil)
theorem fo_8_87 : fOK 8 87 ([8], 33, 2, true, "FormatForgeModel") := fa_cons ⟨_, rfl, by decide, ix 1013 (by decide +kernel), Or.inl rfl, rfl, rfl, fun _ => by first | rfl | contradiction, by decide⟩ (fa_nil)
theorem fo_8_90 : fOK 8 90 ([8], 34, 2, true, "FormatForgeModel") := fa_cons ⟨_, rfl, by decide, ix 1014 (by decide +kernel), Or.inl rfl, rfl, rfl, fun _ => by first | rfl | contradiction, by decide⟩ (fa_nil)
theorem fo_8_93 : fOK 8 93 ([8], 35, 2, true, "FormatForgeModel") := fa_cons ⟨_, rfl, by decide, ix 1015 (by decide +kernel), Or.inl rfl, rfl, rfl, fun _ => by first | rfl | contradiction, by decide⟩ (fa_nil)
theorem fo_8_96 : fOK 8 96 ([8], 36, 2, true, "FormatForgeModel") := fa_cons ⟨_, rfl, by decide, ix 1016 (by decide +kernel), Or.inl rfl, rfl, rfl, fun _ => by first | rfl | contradiction, by decide⟩ (fa_nil)
theorem fo_8_99 : fOK 8 99 ([8], 37, 2, true, "FormatForgeModel") := fa_cons ⟨_, rfl, by decide, ix 1017 (by decide +kernel), Or.inl rfl, rfl, rfl, fun _ => by first | rfl | contradiction, by decide⟩ (fa_nil)
theorem fo_8_102 : fOK 8 102 ([8], 38, 2, true, "FormatForgeModel") := fa_cons ⟨_, rfl, by decide, ix 1018 (by decide +kernel), Or.inl rfl, rfl, rfl, fun _ => by first | rfl | contradiction, by decide⟩ (fa_nil)
theorem fo_8_105 : fOK 8 105 ([8], 44, 2, true, "FormatForgeModel") := fa_cons ⟨_, rfl, by decide, ix 1024 (by decide +kernel), Or.inl rfl, rfl, rfl, fun _ => by first | rfl | contradiction, by decide⟩ (fa_nil)
theorem fo_8_108 : fOK 8 108 ([8], 45, 2, true, "FormatForgeModel") := fa_cons ⟨_, rfl, by decide, ix 1025 (by decide +kernel), Or.inl rfl, rfl, rfl, fun _ => by first | rfl | contradiction, by decide⟩ (fa_nil)
theorem fo_8_111 : fOK 8 111 ([8], 0, 0, false, "FormatForgeModel") := fa_cons ⟨_, rfl, by decide, ix 980 (by decide +kernel), Or.inl rfl, rfl, rfl, fun _ => by first | rfl | contradiction, by decide⟩ (fa_nil)
theorem fo_8_118 : fOK 8 118 ([8], 2, 0, false, "FormatForgeModel") := fa_cons ⟨_, rfl, by decide, ix 982 (by decide +kernel), Or.inl rfl, rfl, rfl, fun _ => by first | rfl | contradiction, by decide⟩ (fa_nil)
theorem fo_8_121 : fOK 8 121 ([8], 28, 0, false, "FormatForgeModel") := fa_cons ⟨_, rfl, by decide, ix 1008 (by decide +kernel), Or.inl rfl, rfl, rfl, fun _ => by first | rfl | contradiction, by decide⟩ (fa_nil)
theorem fo_8_128 : fOK 8 128 ([8], 23, 0, false, "FormatForgeModel") := fa_cons ⟨_, rfl, by decide, ix 1003 (by decide +kernel), Or.inl rfl, rfl, rfl, fun _ => by first | rfl | contradiction, by decide⟩ (fa_nil)
theorem fo_8_159 : fOK 8 159 ([8], 4, 0, false, "FormatForgeModel") := fa_cons ⟨_, rfl, by decide, ix 984 (by decide +kernel), Or.inl rfl, rfl, rfl, fun _ => by first | rfl | contradiction, by decide⟩ (fa_nil)
theorem fo_8_210 : fOK 8 210 ([8], 5, 3, false, "FormatForgeModel") := fa_cons ⟨_, rfl, by decide, ix 985 (by decide +kernel), Or.inl rfl, rfl, rfl, fun _ => by first | rfl | contradiction, by decide⟩ (fa_nil)
theorem fo_8_220 : fOK 8 220 ([8], 7, 0, false, "FormatForgeModel") := fa_cons ⟨_, rfl, by decide, ix 987 (by decide +kernel), Or.inl rfl, rfl, rfl, fun _ => by first | rfl | contradiction, by decide⟩ (fa_nil)
theorem fo_8_223 : fOK 8 223 ([8], 41, 0, false, "FormatForgeModel") := fa_cons ⟨_, rfl, by decide, ix 1021 (by decide +kernel), Or.inl rfl, rfl, rfl, fun _ => by first | rfl | contradiction, by decide⟩ (fa_nil)
theorem fo_8_226 : fOK 8 226 ([8], 42, 0, false, "FormatForgeModel") := fa_cons ⟨_, rfl, by decide, ix 1022 (by decide +kernel), Or.inl rfl, rfl, rfl, fun _ => by first | rfl | contradiction, by decide⟩ (fa_nil)
theorem fo_8_233 : fOK 8 233 ([8], 46, 0, false, "FormatForgeModel") := fa_cons ⟨_, rfl, by decide, ix 1026 (by decide +kernel), Or.inl rfl, rfl, rfl, fun _ => by first | rfl | contradiction, by decide⟩ (fa_nil)
theorem fo_8_236 : fOK 8 236 ([8], 9, 0, false, "FormatForgeModel") := fa_cons ⟨_, rfl, by decide, ix 989 (by decide +kernel), Or.inl rfl, rfl, rfl, fun _ => by first | rfl | contradiction, by decide⟩ (fa_nil)
theorem fo_8_239 : fOK 8 239 ([8], 43, 0, false, "FormatForgeModel") := fa_cons ⟨_, rfl, by decide, ix 1023 (by decide +kernel), Or.inl rfl, rfl, rfl, fun _ => by first | rfl | contradiction, by decide⟩ (fa_nil)
theorem fo_8_242 : fOK 8 242 ([8], 40, 3, false, "FormatForgeModel") := fa_cons ⟨_, rfl, by decide, ix 1020 (by decide +kernel), Or.inl rfl, rfl, rfl, fun _ => by first | rfl | contradiction, by decide⟩ (fa_nil)
theorem fo_8_282 : fOK 8 282 ([8], 47, 0, false, "FormatForgeModel") := fa_cons ⟨_, rfl, by decide, ix 1027 (by decide +kernel), Or.inl rfl, rfl, rfl, fun _ => by first | rfl | contradiction, by decide⟩ (fa_nil)
theorem fo_8_288 : fOK 8 288 ([8], 48, 0, false, "FormatForgeModel") := fa_cons ⟨_, rfl, by decide, ix 1028 (by decide +kernel), Or.inl rfl, rfl, rfl, fun _ => by first | rfl | contradiction, by decide⟩ (fa_nil)
theorem fo_8_306 : fOK 8 306 ([8], 39, 0, false, "FormatForgeModel") := fa_cons ⟨_, rfl, by decide, ix 1019 (by decide +kernel), Or.inl rfl, rfl, rfl, fun _ => by first | rfl | contradiction, by decide⟩ (fa_nil)
theorem fo_8 : ∀ e ∈ fld_8, fOK 8 e.1 e.2 := fa_cons fo_8_7 (fa_cons fo_8_13 (fa_cons fo_8_16 (fa_cons fo_8_19 (fa_cons fo_8_23 (fa_cons fo_8_27 (fa_cons fo_8_30 (fa_cons fo_8_33 (fa_cons fo_8_36 (fa_cons fo_8_39 (fa_cons fo_8_42 (fa_cons fo_8_45 (fa_cons fo_8_48 (fa_cons fo_8_51 (fa_cons fo_8_54 (fa_cons fo_8_57 (fa_cons fo_8_60 (fa_cons fo_8_63 (fa_cons fo_8_66 (fa_cons fo_8_69 (fa_cons fo_8_72 (fa_cons fo_8_75 (fa_cons fo_8_78 (fa_cons fo_8_81 (fa_cons fo_8_84 (fa_cons fo_8_87 (fa_cons fo_8_90 (fa_cons fo_8_93 (fa_cons fo_8_96 (fa_cons fo_8_99 (fa_cons fo_8_102 (fa_cons fo_8_105 (fa_cons fo_8_108 (fa_cons fo_8_111 (fa_cons fo_8_118 (fa_cons fo_8_121 (fa_cons fo_8_128 (fa_cons fo_8_159 (fa_cons fo_8_210 (fa_cons fo_8_220 (fa_cons fo_8_223 (fa_cons fo_8_226 (fa_cons fo_8_233 (fa_cons fo_8_236 (fa_cons fo_8_239 (fa_cons fo_8_242 (fa_cons fo_8_282 (fa_cons fo_8_288 (fa_cons fo_8_306 (fa_nil)))))))))))))))))))))))))))))))))))))))))))))))))
theorem fo_9 : ∀ e ∈ fld_9, fOK 9 e.1 e.2 := fa_nil
theorem fo_10 : ∀ e ∈ fld_10, fOK 10 e.1 e.2 := fa_nil
theorem fo_11 : ∀ e ∈ fld_11, fOK 11 e.1 e.2 := fa_nil
theorem fo_12 : ∀ e ∈ fld_12, fOK 12 e.1 e.2 := fa_nil
theorem fo_13 : ∀ e ∈ fld_13, fOK 13 e.1 e.2 := fa_nil
theorem fo_15_9 : fOK 15 9 ([5, 6], 0, 0, false, "FormatForge$Course") := fa_cons ⟨_, rfl, by decide, ix 667 (by decide +kernel), Or.inl rfl, rfl, rfl, fun _ => by first | rfl | contradiction, by decide⟩ (fa_cons ⟨_, rfl, by decide, ix 667 (by decide +kernel), Or.inl rfl, rfl, rfl, fun _ => by first | rfl | contradiction, by decide⟩ (fa_nil))
theorem fo_15_15 : fOK 15 15 ([5, 6], 1, 0, false, "FormatForge$Course") := fa_cons ⟨_, rfl, by decide, ix 672 (by decide +kernel), Or.inl rfl, rfl, rfl, fun _ => by first | rfl | contradiction, by decide⟩ (fa_cons ⟨_, rfl, by decide, ix 672 (by decide +kernel), Or.inl rfl, rfl, rfl, fun _ => by first | rfl | contradiction, by decide⟩ (fa_nil))
theorem fo_15_18 : fOK 15 18 ([5, 6], 2, 0, false, "FormatForge$Course") := fa_cons ⟨_, rfl, by decide, ix 674 (by decide +kernel), Or.inl rfl, rfl, rfl, fun _ => by first | rfl | contradiction, by decide⟩ (fa_cons ⟨_, rfl, by decide, ix 674 (by decide +kernel), Or.inl rfl, rfl, rfl, fun _ => by first | rfl | contradiction, by decide⟩ (fa_nil))
theorem fo_15_31 : fOK 15 31 ([2], 0, 0, false, "FormatForge$Node") := fa_cons ⟨_, rfl, by decide, ix 148 (by decide +kernel), Or.inl rfl, rfl, rfl, fun _ => by first | rfl | contradiction, by decide⟩ (fa_nil)
theorem fo_15_52 : fOK 15 52 ([2], 2, 0, false, "FormatForge$Node") := fa_cons ⟨_, rfl, by decide, ix 155 (by decide +kernel), Or.inl rfl, rfl, rfl, fun _ => by first | rfl | contradiction, by decide⟩ (fa_nil)
theorem fo_15_66 : fOK 15 66 ([2], 9, 2, false, "FormatForge$Node") := fa_cons ⟨_, rfl, by decide, ix 175 (by decide +kernel), Or.inl rfl, rfl, rfl, fun _ => by first | rfl | contradiction, by decide⟩ (fa_nil)
theorem fo_15_73 : fOK 15 73 ([2], 8, 2, false, "FormatForge$Node") := fa_cons ⟨_, rfl, by decide, ix 173 (by decide +kernel), Or.inl rfl, rfl, rfl, fun _ => by first | rfl | contradiction, by decide⟩ (fa_nil)
theorem fo_15_83 : fOK 15 83 ([2], 3, 0, false, "FormatForge$Node") := fa_cons ⟨_, rfl, by decide, ix 160 (by decide +kernel), Or.inl rfl, rfl, rfl, fun _ => by first | rfl | contradiction, by decide⟩ (fa_nil)
theorem fo_15_86 : fOK 15 86 ([2], 5, 2, false, "FormatForge$Node") := fa_cons ⟨_, rfl, by decide, ix 166 (by decide +kernel), Or.inl rfl, rfl, rfl, fun _ => by first | rfl | contradiction, by decide⟩ (fa_nil)
theorem fo_15_91 : fOK 15 91 ([2], 15, 1, false, "FormatForge$Node") := fa_cons ⟨_, rfl, by decide, ix 191 (by decide +kernel), Or.inl rfl, rfl, rfl, fun _ => by first | rfl | contradiction, by decide⟩ (fa_nil)
theorem fo_15 : ∀ e ∈ fld_15, fOK 15 e.1 e.2 := fa_cons fo_15_9 (fa_cons fo_15_15 (fa_cons fo_15_18 (fa_cons fo_15_31 (fa_cons fo_15_52 (fa_cons fo_15_66 (fa_cons fo_15_73 (fa_cons fo_15_83 (fa_cons fo_15_86 (fa_cons fo_15_91 (fa_nil))))))))))
theorem fo_16 : ∀ e ∈ fld_16, fOK 16 e.1 e.2 := fa_nil
theorem fo_17 : ∀ e ∈ fld_17, fOK 17 e.1 e.2 := fa_nil
theorem flds_ok {c k : Nat} {v : List Nat × Nat × Nat × Bool × String} (h : fldOf c k = some v) : fOK c k v := by
  have hm := lookup_mem h
  unfold fldL at hm
  split at hm
  · exact fo_0 _ hm
  · exact fo_1 _ hm
  · exact fo_2 _ hm
  · exact fo_3 _ hm
  · exact fo_4 _ hm
  · exact fo_5 _ hm
  · exact fo_6 _ hm
  · exact fo_7 _ hm
  · exact fo_8 _ hm
  · exact fo_9 _ hm
  · exact fo_10 _ hm
  · exact fo_11 _ hm
  · exact fo_12 _ hm
  · exact fo_13 _ hm
  · exact fo_15 _ hm
  · exact fo_16 _ hm
  · exact fo_17 _ hm
  · cases hm
theorem uw_0 : ∀ w ∈ u_ws "FormatForge$Bytes" T_0 2, w ∈ lw_tbl := by decide +kernel
theorem uw_1 : ∀ w ∈ u_ws "FormatForge$Longs" T_1 2, w ∈ lw_tbl := by decide +kernel
theorem uw_2 : ∀ w ∈ u_ws "FormatForge$Node" T_2 16, w ∈ lw_tbl := by decide +kernel
theorem uw_3 : ∀ w ∈ u_ws "FormatForge$Format" T_3 2, w ∈ lw_tbl := by decide +kernel
theorem uw_4 : ∀ w ∈ u_ws "FormatForge$Parser" T_4 3, w ∈ lw_tbl := by decide +kernel
theorem uw_5 : ∀ w ∈ u_ws "FormatForge$Reading" T_5 5, w ∈ lw_tbl := by decide +kernel
theorem uw_6 : ∀ w ∈ u_ws "FormatForge$Writing" T_6 7, w ∈ lw_tbl := by decide +kernel
theorem uw_7 : ∀ w ∈ u_ws "FormatForge" T_7 10, w ∈ lw_tbl := by decide +kernel
theorem uw_8 : ∀ w ∈ u_ws "FormatForgeModel" T_8 49, w ∈ lw_tbl := by decide +kernel
