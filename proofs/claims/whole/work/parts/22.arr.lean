section AP
variable {p : Program} {l : Launch} {e : Env} {R : Room} {s : State} {mid : MethodId} {args : Array Value} {below : List Frame} {meth : Method} {c : Code} {H : Heap} {locs : List Loc} {cells slots : Nat} {Q : State → Prop}
variable {w : Wd} {m : Mr} {d pc : Nat} {hs h : Hp} {lc : Lc} {st : List Value} {ls : Array Slot} {X : Nx} {h' : Hp}
theorem ainr_in {i : Int32} {n : Nat} : ainr i n = true ↔ vp_in i n := by
  unfold ainr vp_in
  simp
/-- a live array's cell -/
theorem Rel.arr (r : Rel w h H) {a k : Nat} (hk : (hS h a).1 = k) (h1 : ¬ a = 1) (h9 : ¬ k = 99) : 2 ≤ a ∧ a < hN h ∧ cv w (.ref a) = .ref (bas w + (a - 2)) ∧ va_at (wD w) kls (bas w + (a - 2), cellE w h a) H := by
  have hl := r.live h1 (by rw [hk]; exact h9)
  exact ⟨hl.1, hl.2, cv_live w hl.1, r.2.2.1 a hl.1 hl.2⟩
theorem hh_ald (G : Gd l w) (C : Cx w p e R s mid meth c m d hs) (r : Rel w h H) (hlo : ∀ q ∈ locs, bas w ≤ q.base) (hL : LR w (mL m) lc ls) {k : Nat} {f : Hp → Nat → Nat → Value} (h0 : aLd k f pc lc st h = some (.inl (X.1, X.2.1, X.2.2, h'))) (K : Kh p l e R s mid args below meth c Q w (mL m) X h')
    (row : ∀ (a : Nat) (i : Int32) (rest : List Value), (hS h a).1 = k → vp_in i (hS h a).2 → W p l e R s mid args below meth c H locs cells slots Q (F0 mid (pc + 1) ls (cv w (f h a i.toNatClampNeg) :: rest)) → W p l e R s mid args below meth c H locs cells slots Q (F0 mid pc ls (.int i :: cv w (.ref a) :: rest))) :
    W p l e R s mid args below meth c H locs cells slots Q (F0 mid pc ls (st.map (cv w))) := by
  obtain ⟨pc', lc', st'⟩ := X
  unfold aLd at h0
  split at h0
  · rename_i i a r1
    split at h0
    · rename_i hc
      simp only [Option.some.injEq, Sum.inl.injEq, Prod.mk.injEq] at h0
      obtain ⟨rfl, rfl, rfl, rfl⟩ := h0
      exact row a i _ hc.1 (ainr_in.mp hc.2) (K H locs cells slots ls r hlo hL)
    · cases h0
  · cases h0
theorem hr_iald (G : Gd l w) (C : Cx w p e R s mid meth c m d hs) (r : Rel w h H) (hd : decode (mB m) pc = .ok (.iaload, 1)) (a : Nat) (i : Int32) (rest : List Value) (hk : (hS h a).1 = 20) (hin : vp_in i (hS h a).2) (k : W p l e R s mid args below meth c H locs cells slots Q (F0 mid (pc + 1) ls (cv w (.int (hI h a i.toNatClampNeg)) :: rest))) :
    W p l e R s mid args below meth c H locs cells slots Q (F0 mid pc ls (.int i :: cv w (.ref a) :: rest)) := by
  have hlt : i.toNatClampNeg < (hS h a).2 := Nat.not_le.mp fun q => hin (Or.inr q)
  by_cases h1 : a = 1
  · subst h1
    obtain ⟨⟨scr, g1, g2, g3, g4, g5⟩, g6, g7⟩ := G.2.1
    have hz := r.2.2.2.2.2.1
    rw [hz.1] at hin hlt
    dsimp only at hin hlt
    show W p l e R s mid args below meth c H locs cells slots Q (F0 mid pc ls (.int i :: .ref (wb w) :: rest))
    exact W.iald (v := .int (hI h 1 i.toNatClampNeg)) C.x C.b (by rw [r.2.1 _ g6]; exact g1) (State.isArrayOf_alike C.wm.alike g2) g3 (by rw [g4]; exact hin) (by rw [hz.2 _ hlt]; exact g5 _ hlt) rfl rfl hd k
  · obtain ⟨-, -, e1, hat⟩ := r.arr hk h1 (by decide)
    unfold cellE at hat
    rw [if_pos hk] at hat
    rw [e1]
    refine W.iald (v := .int (hI h a i.toNatClampNeg)) C.x C.b hat ((G.KA C.wm 0 (k := 20) rfl).1 (hS h a).2 (fun j => .int (hI h a j))) (fun q => by cases q) ?_ ?_ rfl rfl hd k
    · show ¬ (i < 0 ∨ (arrV _ _ _).slots.size ≤ _); rw [arrV_size]; exact hin
    · show (arrV _ _ _).slots[_]? = _; rw [arrV_read _ _ hlt]
theorem hr_bald (G : Gd l w) (C : Cx w p e R s mid meth c m d hs) (r : Rel w h H) (hd : decode (mB m) pc = .ok (.baload, 1)) (a : Nat) (i : Int32) (rest : List Value) (hk : (hS h a).1 = 22) (hin : vp_in i (hS h a).2) (k : W p l e R s mid args below meth c H locs cells slots Q (F0 mid (pc + 1) ls (cv w (.int (hI h a i.toNatClampNeg)) :: rest))) :
    W p l e R s mid args below meth c H locs cells slots Q (F0 mid pc ls (.int i :: cv w (.ref a) :: rest)) := by
  have hlt : i.toNatClampNeg < (hS h a).2 := Nat.not_le.mp fun q => hin (Or.inr q)
  have h1 : ¬ a = 1 := fun q => by rw [q, r.2.2.2.2.2.1.1] at hk; cases hk
  obtain ⟨-, -, e1, hat⟩ := r.arr hk h1 (by decide)
  unfold cellE at hat
  rw [if_neg (by omega), if_neg (by omega), if_pos hk] at hat
  rw [e1]
  refine W.bald (v := .int (hI h a i.toNatClampNeg)) C.x C.b hat ((G.KA C.wm 2 (k := 22) rfl).1 (hS h a).2 (fun j => .int (hI h a j))) (fun q => by cases q) ?_ ?_ rfl rfl hd k
  · show ¬ (i < 0 ∨ (arrV _ _ _).slots.size ≤ _); rw [arrV_size]; exact hin
  · show (arrV _ _ _).slots[_]? = _; rw [arrV_read _ _ hlt]
theorem hr_lald (G : Gd l w) (C : Cx w p e R s mid meth c m d hs) (r : Rel w h H) (hd : decode (mB m) pc = .ok (.laload, 1)) (a : Nat) (i : Int32) (rest : List Value) (hk : (hS h a).1 = 21) (hin : vp_in i (hS h a).2) (k : W p l e R s mid args below meth c H locs cells slots Q (F0 mid (pc + 1) ls (cv w (.long (hL h a i.toNatClampNeg)) :: rest))) :
    W p l e R s mid args below meth c H locs cells slots Q (F0 mid pc ls (.int i :: cv w (.ref a) :: rest)) := by
  have hlt : i.toNatClampNeg < (hS h a).2 := Nat.not_le.mp fun q => hin (Or.inr q)
  have h1 : ¬ a = 1 := fun q => by rw [q, r.2.2.2.2.2.1.1] at hk; cases hk
  obtain ⟨-, -, e1, hat⟩ := r.arr hk h1 (by decide)
  unfold cellE at hat
  rw [if_neg (by omega), if_pos hk] at hat
  rw [e1]
  refine W.lald (v := .long (hL h a i.toNatClampNeg)) C.x C.b hat ((G.KA C.wm 1 (k := 21) rfl).1 (hS h a).2 (fun j => .long (hL h a j))) (fun q => by cases q) ?_ ?_ rfl rfl hd k
  · show ¬ (i < 0 ∨ (arrV _ _ _).slots.size ≤ _); rw [arrV_size]; exact hin
  · show (arrV _ _ _).slots[_]? = _; rw [arrV_read _ _ hlt]
theorem hr_dald (G : Gd l w) (C : Cx w p e R s mid meth c m d hs) (r : Rel w h H) (hd : decode (mB m) pc = .ok (.daload, 1)) (a : Nat) (i : Int32) (rest : List Value) (hk : (hS h a).1 = 23) (hin : vp_in i (hS h a).2) (k : W p l e R s mid args below meth c H locs cells slots Q (F0 mid (pc + 1) ls (cv w (.double (hD h a i.toNatClampNeg)) :: rest))) :
    W p l e R s mid args below meth c H locs cells slots Q (F0 mid pc ls (.int i :: cv w (.ref a) :: rest)) := by
  have hlt : i.toNatClampNeg < (hS h a).2 := Nat.not_le.mp fun q => hin (Or.inr q)
  have h1 : ¬ a = 1 := fun q => by rw [q, r.2.2.2.2.2.1.1] at hk; cases hk
  obtain ⟨-, -, e1, hat⟩ := r.arr hk h1 (by decide)
  unfold cellE at hat
  rw [if_neg (by omega), if_neg (by omega), if_neg (by omega), if_pos hk] at hat
  rw [e1]
  refine W.dald (v := .double (hD h a i.toNatClampNeg)) C.x C.b hat ((G.KA C.wm 3 (k := 23) rfl).1 (hS h a).2 (fun j => .double (hD h a j))) (fun q => by cases q) ?_ ?_ rfl rfl hd k
  · show ¬ (i < 0 ∨ (arrV _ _ _).slots.size ≤ _); rw [arrV_size]; exact hin
  · show (arrV _ _ _).slots[_]? = _; rw [arrV_read _ _ hlt]
theorem hr_aald (G : Gd l w) (C : Cx w p e R s mid meth c m d hs) (r : Rel w h H) (hd : decode (mB m) pc = .ok (.aaload, 1)) (a : Nat) (i : Int32) (rest : List Value) (hk : (hS h a).1 = 24) (hin : vp_in i (hS h a).2) (k : W p l e R s mid args below meth c H locs cells slots Q (F0 mid (pc + 1) ls (cv w (.ref (hR h a i.toNatClampNeg)) :: rest))) :
    W p l e R s mid args below meth c H locs cells slots Q (F0 mid pc ls (.int i :: cv w (.ref a) :: rest)) := by
  have hlt : i.toNatClampNeg < (hS h a).2 := Nat.not_le.mp fun q => hin (Or.inr q)
  have h1 : ¬ a = 1 := fun q => by rw [q, r.2.2.2.2.2.1.1] at hk; cases hk
  obtain ⟨-, -, e1, hat⟩ := r.arr hk h1 (by decide)
  unfold cellE at hat
  rw [if_neg (by omega), if_neg (by omega), if_neg (by omega), if_neg (by omega), if_pos hk] at hat
  rw [e1]
  rw [← va_rf_rfo] at k
  refine W.aald (v := va_rf (rfo w (hR h a i.toNatClampNeg))) (ty := .object "FormatForge$Node") C.x C.b hat ((G.KA C.wm 4 (k := 24) rfl).1 (hS h a).2 (fun j => va_rf (rfo w (hR h a j)))) rfl (fun q => by cases q) ?_ ?_ rfl rfl hd k
  · show ¬ (i < 0 ∨ (arrV _ _ _).slots.size ≤ _); rw [arrV_size]; exact hin
  · show (arrV _ _ _).slots[_]? = _; rw [arrV_read _ _ hlt]
/-- a store into an array, once the cell's own row is given -/
theorem hh_ast (G : Gd l w) (C : Cx w p e R s mid meth c m d hs) (r : Rel w h H) (hlo : ∀ q ∈ locs, bas w ≤ q.base) (hL : LR w (mL m) lc ls) {k : Nat} {f : Hp → Nat → Nat → Value → Option Hp} (h0 : aSt k f pc lc st h = some (.inl (X.1, X.2.1, X.2.2, h'))) (K : Kh p l e R s mid args below meth c Q w (mL m) X h') (h99 : ¬ k = 99)
    (row : ∀ (a : Nat) (i : Int32) (v : Value) (rest : List Value), (hS h a).1 = k → 2 ≤ a ∧ a < hN h → va_at (wD w) kls (bas w + (a - 2), cellE w h a) H → vp_in i (hS h a).2 → f h a i.toNatClampNeg v = some h' →
      (∀ (H' : Heap), Rel w h' H' → W p l e R s mid args below meth c H' (locs ++ [⟨bas w + (a - 2), i.toNatClampNeg⟩]) cells slots Q (F0 mid (pc + 1) ls rest)) → W p l e R s mid args below meth c H locs cells slots Q (F0 mid pc ls (cv w v :: .int i :: .ref (bas w + (a - 2)) :: rest))) :
    W p l e R s mid args below meth c H locs cells slots Q (F0 mid pc ls (st.map (cv w))) := by
  obtain ⟨pc', lc', st'⟩ := X
  unfold aSt at h0
  split at h0
  · rename_i v i a r1
    split at h0
    · rename_i hc
      split at h0
      · rename_i h2 hf
        simp only [Option.some.injEq, Sum.inl.injEq, Prod.mk.injEq] at h0
        obtain ⟨rfl, rfl, rfl, rfl⟩ := h0
        obtain ⟨hk, h1, hi⟩ := hc
        obtain ⟨g1, g2, e1, hat⟩ := r.arr hk h1 h99
        show W p l e R s mid args below meth c H locs cells slots Q (F0 mid pc ls (cv w v :: .int i :: cv w (.ref a) :: r1.map (cv w)))
        rw [e1]
        exact row a i v _ hk ⟨g1, g2⟩ hat (ainr_in.mp hi) hf (fun H' r' => K H' _ cells slots ls r' (locs_add hlo (by omega)) hL)
      · cases h0
    · cases h0
  · cases h0
theorem hr_iast (G : Gd l w) (C : Cx w p e R s mid meth c m d hs) (r : Rel w h H) (hd : decode (mB m) pc = .ok (.iastore, 1)) (a : Nat) (i : Int32) (v : Value) (rest : List Value) (hk : (hS h a).1 = 20) (hl : 2 ≤ a ∧ a < hN h) (hat : va_at (wD w) kls (bas w + (a - 2), cellE w h a) H) (hin : vp_in i (hS h a).2) (hf : stI h a i.toNatClampNeg v = some h')
    (kk : ∀ (H' : Heap), Rel w h' H' → W p l e R s mid args below meth c H' (locs ++ [⟨bas w + (a - 2), i.toNatClampNeg⟩]) cells slots Q (F0 mid (pc + 1) ls rest)) : W p l e R s mid args below meth c H locs cells slots Q (F0 mid pc ls (cv w v :: .int i :: .ref (bas w + (a - 2)) :: rest)) := by
  unfold stI at hf
  split at hf
  · rename_i x
    injection hf with hf; subst hf
    unfold cellE at hat
    rw [if_pos hk] at hat
    refine W.iast C.x C.b hat ((G.KA C.wm 0 (k := 20) rfl).1 (hS h a).2 (fun j => .int (hI h a j))) (fun q => by cases q) (by show ¬ (i < 0 ∨ (arrV _ _ _).slots.size ≤ _); rw [arrV_size]; exact hin) rfl rfl hd fun H' z1 z2 z3 => kk H' ?_
    refine r.put hl rfl rfl rfl (fun b hb => ⟨by funext k; simp [hI, sI, up2, hb], rfl, rfl, rfl⟩) (fun z => absurd z (by rw [hk]; decide)) hat z1 (by simp [Cell.setSlot]) z2 z3 ?_
    unfold cellE
    rw [if_pos (by exact hk)]
    show H'[_]? = some (vp_cell _ _)
    rw [z1, vp_cell_i, vp_cell_i, arrV_store]
    congr 2
    funext q
    by_cases hq : q = i.toNatClampNeg <;> simp [updV, hI, sI, up2, hq]
  · cases hf
theorem hr_bast (G : Gd l w) (C : Cx w p e R s mid meth c m d hs) (r : Rel w h H) (hd : decode (mB m) pc = .ok (.bastore, 1)) (a : Nat) (i : Int32) (v : Value) (rest : List Value) (hk : (hS h a).1 = 22) (hl : 2 ≤ a ∧ a < hN h) (hat : va_at (wD w) kls (bas w + (a - 2), cellE w h a) H) (hin : vp_in i (hS h a).2) (hf : stB h a i.toNatClampNeg v = some h')
    (kk : ∀ (H' : Heap), Rel w h' H' → W p l e R s mid args below meth c H' (locs ++ [⟨bas w + (a - 2), i.toNatClampNeg⟩]) cells slots Q (F0 mid (pc + 1) ls rest)) : W p l e R s mid args below meth c H locs cells slots Q (F0 mid pc ls (cv w v :: .int i :: .ref (bas w + (a - 2)) :: rest)) := by
  unfold stB at hf
  split at hf
  · rename_i x
    injection hf with hf; subst hf
    unfold cellE at hat
    rw [if_neg (by omega), if_neg (by omega), if_pos hk] at hat
    refine W.bast C.x C.b hat ((G.KA C.wm 2 (k := 22) rfl).1 (hS h a).2 (fun j => .int (hI h a j))) (fun q => by cases q) (by show ¬ (i < 0 ∨ (arrV _ _ _).slots.size ≤ _); rw [arrV_size]; exact hin) rfl rfl hd fun H' z1 z2 z3 => kk H' ?_
    refine r.put hl rfl rfl rfl (fun b hb => ⟨by funext k; simp [hI, sI, up2, hb], rfl, rfl, rfl⟩) (fun z j => ?_) hat z1 (by simp [Cell.setSlot]) z2 z3 ?_
    · by_cases hq : j = i.toNatClampNeg
      · simp only [hI, sI, up2, hq, and_self, if_true]; exact pk_fb x
      · have := r.2.2.2.2.2.2 a hk j
        simpa [hI, sI, up2, hq] using this
    · unfold cellE
      rw [if_neg (by show ¬ (hS h a).1 = 20; omega), if_neg (by show ¬ (hS h a).1 = 21; omega), if_pos (by exact hk)]
      show H'[_]? = some (vp_cell _ _)
      rw [z1, vp_cell_i, vp_cell_i, arrV_store]
      congr 2
      funext q
      by_cases hq : q = i.toNatClampNeg
      · simp only [updV, hI, sI, up2, hq, and_self, if_true]; rfl
      · simp [updV, hI, sI, up2, hq]
  · cases hf
theorem hr_last (G : Gd l w) (C : Cx w p e R s mid meth c m d hs) (r : Rel w h H) (hd : decode (mB m) pc = .ok (.lastore, 1)) (a : Nat) (i : Int32) (v : Value) (rest : List Value) (hk : (hS h a).1 = 21) (hl : 2 ≤ a ∧ a < hN h) (hat : va_at (wD w) kls (bas w + (a - 2), cellE w h a) H) (hin : vp_in i (hS h a).2) (hf : stL h a i.toNatClampNeg v = some h')
    (kk : ∀ (H' : Heap), Rel w h' H' → W p l e R s mid args below meth c H' (locs ++ [⟨bas w + (a - 2), i.toNatClampNeg⟩]) cells slots Q (F0 mid (pc + 1) ls rest)) : W p l e R s mid args below meth c H locs cells slots Q (F0 mid pc ls (cv w v :: .int i :: .ref (bas w + (a - 2)) :: rest)) := by
  unfold stL at hf
  split at hf
  · rename_i x
    injection hf with hf; subst hf
    unfold cellE at hat
    rw [if_neg (by omega), if_pos hk] at hat
    refine W.last C.x C.b hat ((G.KA C.wm 1 (k := 21) rfl).1 (hS h a).2 (fun j => .long (hL h a j))) (fun q => by cases q) (by show ¬ (i < 0 ∨ (arrV _ _ _).slots.size ≤ _); rw [arrV_size]; exact hin) rfl rfl hd fun H' z1 z2 z3 => kk H' ?_
    refine r.put hl rfl rfl rfl (fun b hb => ⟨rfl, by funext k; simp [hL, sL, up2, hb], rfl, rfl⟩) (fun z => absurd z (by rw [hk]; decide)) hat z1 (by simp [Cell.setSlot]) z2 z3 ?_
    unfold cellE
    rw [if_neg (by show ¬ (hS h a).1 = 20; omega), if_pos (by exact hk)]
    show H'[_]? = some (vp_cell _ _)
    rw [z1, vp_cell_l, vp_cell_l, arrV_store]
    congr 2
    funext q
    by_cases hq : q = i.toNatClampNeg <;> simp [updV, hL, sL, up2, hq]
  · cases hf
theorem hr_dast (G : Gd l w) (C : Cx w p e R s mid meth c m d hs) (r : Rel w h H) (hd : decode (mB m) pc = .ok (.dastore, 1)) (a : Nat) (i : Int32) (v : Value) (rest : List Value) (hk : (hS h a).1 = 23) (hl : 2 ≤ a ∧ a < hN h) (hat : va_at (wD w) kls (bas w + (a - 2), cellE w h a) H) (hin : vp_in i (hS h a).2) (hf : stD h a i.toNatClampNeg v = some h')
    (kk : ∀ (H' : Heap), Rel w h' H' → W p l e R s mid args below meth c H' (locs ++ [⟨bas w + (a - 2), i.toNatClampNeg⟩]) cells slots Q (F0 mid (pc + 1) ls rest)) : W p l e R s mid args below meth c H locs cells slots Q (F0 mid pc ls (cv w v :: .int i :: .ref (bas w + (a - 2)) :: rest)) := by
  unfold stD at hf
  split at hf
  · rename_i x
    injection hf with hf; subst hf
    unfold cellE at hat
    rw [if_neg (by omega), if_neg (by omega), if_neg (by omega), if_pos hk] at hat
    refine W.dast C.x C.b hat ((G.KA C.wm 3 (k := 23) rfl).1 (hS h a).2 (fun j => .double (hD h a j))) (fun q => by cases q) (by show ¬ (i < 0 ∨ (arrV _ _ _).slots.size ≤ _); rw [arrV_size]; exact hin) rfl rfl hd fun H' z1 z2 z3 => kk H' ?_
    refine r.put hl rfl rfl rfl (fun b hb => ⟨rfl, rfl, rfl, by funext k; simp [hD, sD, up2, hb]⟩) (fun z => absurd z (by rw [hk]; decide)) hat z1 (by simp [Cell.setSlot]) z2 z3 ?_
    unfold cellE
    rw [if_neg (by show ¬ (hS h a).1 = 20; omega), if_neg (by show ¬ (hS h a).1 = 21; omega), if_neg (by show ¬ (hS h a).1 = 22; omega), if_pos (by exact hk)]
    show H'[_]? = some (vp_cell _ _)
    rw [z1, vp_cell_d, vp_cell_d, arrV_store]
    congr 2
    funext q
    by_cases hq : q = i.toNatClampNeg <;> simp [updV, hD, sD, up2, hq]
  · cases hf
theorem hr_aast (G : Gd l w) (C : Cx w p e R s mid meth c m d hs) (r : Rel w h H) (hd : decode (mB m) pc = .ok (.aastore, 1)) (a : Nat) (i : Int32) (v : Value) (rest : List Value) (hk : (hS h a).1 = 24) (hl : 2 ≤ a ∧ a < hN h) (hat : va_at (wD w) kls (bas w + (a - 2), cellE w h a) H) (hin : vp_in i (hS h a).2) (hf : stR h a i.toNatClampNeg v = some h')
    (kk : ∀ (H' : Heap), Rel w h' H' → W p l e R s mid args below meth c H' (locs ++ [⟨bas w + (a - 2), i.toNatClampNeg⟩]) cells slots Q (F0 mid (pc + 1) ls rest)) : W p l e R s mid args below meth c H locs cells slots Q (F0 mid pc ls (cv w v :: .int i :: .ref (bas w + (a - 2)) :: rest)) := by
  unfold stR at hf
  split at hf
  · rename_i x
    split at hf
    · rename_i hx
      injection hf with hf; subst hf
      have hlt : i.toNatClampNeg < (hS h a).2 := Nat.not_le.mp fun q => hin (Or.inr q)
      have hn0 : ¬ i < 0 := fun q => hin (Or.inl q)
      unfold cellE at hat
      rw [if_neg (by omega), if_neg (by omega), if_neg (by omega), if_neg (by omega), if_pos hk] at hat
      have hx1 : ¬ x = 1 := fun q => by rw [q, r.2.2.2.2.2.1.1] at hx; cases hx
      obtain ⟨-, -, ex, hatx⟩ := r.arr hx hx1 (by decide)
      rw [cellE_obj hx (by decide)] at hatx
      obtain ⟨r', hr', cellV, g1, g2, g3, -⟩ := hatx
      have hcls := ((G.K C.wm).1 2 _ rfl).2
      obtain ⟨kA, comp, k1, k2, k3, -⟩ := (G.KA C.wm 4 (k := 24) rfl).2
      have hcomp : comp = (wD w).1 2 := Option.some.inj (k3.symm.trans hcls.1)
      subst hcomp
      obtain ⟨kC, hkC, -⟩ := hcls.2
      rw [ex]
      refine W.aast C.x C.b hat (fun q z => by cases z) (fun z => by cases z) k1 k2 rfl hkC ⟨hn0, by show _ < (arrV _ _ _).slots.size; rw [arrV_size]; exact hlt⟩ g1 (fun q z => by rw [g3] at z; cases z) (by rw [g2]; exact hkC) (by rw [g2]; exact va_assign hcls) rfl rfl hd fun H' z1 z2 z3 => kk H' ?_
      refine r.put hl rfl rfl rfl (fun b hb => ⟨rfl, rfl, by funext k; simp [hR, sR, up2, hb], rfl⟩) (fun z => absurd z (by rw [hk]; decide)) hat z1 (by simp [Cell.setSlot]) z2 z3 ?_
      unfold cellE
      rw [if_neg (by show ¬ (hS h a).1 = 20; omega), if_neg (by show ¬ (hS h a).1 = 21; omega), if_neg (by show ¬ (hS h a).1 = 22; omega), if_neg (by show ¬ (hS h a).1 = 23; omega), if_pos (by exact hk)]
      show H'[_]? = some (vp_cell _ _)
      rw [z1, vp_cell_q, vp_cell_q, arrV_store]
      congr 2
      funext q
      by_cases hq : q = i.toNatClampNeg
      · simp only [updV, hR, sR, up2, hq, and_self, if_true, va_rf_rfo]; exact ex.symm
      · simp [updV, hR, sR, up2, hq]
    · cases hf
  · cases hf
theorem hh_alen (G : Gd l w) (C : Cx w p e R s mid meth c m d hs) (r : Rel w h H) (hd : decode (mB m) pc = .ok (.arraylength, 1)) {a : Nat} {rest : List Value} (hk : isArr (hS h a).1 = true) (k : W p l e R s mid args below meth c H locs cells slots Q (F0 mid (pc + 1) ls (.int (Int32.ofNat (hS h a).2) :: rest))) :
    W p l e R s mid args below meth c H locs cells slots Q (F0 mid pc ls (cv w (.ref a) :: rest)) := by
  have hk' : (hS h a).1 = 20 ∨ (hS h a).1 = 21 ∨ (hS h a).1 = 22 ∨ (hS h a).1 = 23 ∨ (hS h a).1 = 24 := by
    unfold isArr at hk
    simp at hk
    omega
  by_cases h1 : a = 1
  · subst h1
    obtain ⟨⟨scr, g1, g2, g3, g4, g5⟩, g6, g7⟩ := G.2.1
    have hz := r.2.2.2.2.2.1
    show W p l e R s mid args below meth c H locs cells slots Q (F0 mid pc ls (.ref (wb w) :: rest))
    exact W.alen C.x C.b (by rw [r.2.1 _ g6]; exact g1) (State.isArrayOf_alike C.wm.alike g2) (by rw [g4, hz.1] <;> rfl) rfl rfl hd k
  · obtain ⟨-, -, e1, hat⟩ := r.arr rfl h1 (by omega)
    rw [e1]
    unfold cellE at hat
    rcases hk' with q | q | q | q | q
    · rw [if_pos q] at hat
      exact W.alen C.x C.b hat ((G.KA C.wm 0 (k := 20) rfl).1 (hS h a).2 (fun j => .int (hI h a j))) (by rw [vp_cell_i, arrV_size] <;> rfl) rfl rfl hd k
    · rw [if_neg (by omega), if_pos q] at hat
      exact W.alen C.x C.b hat ((G.KA C.wm 1 (k := 21) rfl).1 (hS h a).2 (fun j => .long (hL h a j))) (by rw [vp_cell_l, arrV_size] <;> rfl) rfl rfl hd k
    · rw [if_neg (by omega), if_neg (by omega), if_pos q] at hat
      exact W.alen C.x C.b hat ((G.KA C.wm 2 (k := 22) rfl).1 (hS h a).2 (fun j => .int (hI h a j))) (by rw [vp_cell_i, arrV_size] <;> rfl) rfl rfl hd k
    · rw [if_neg (by omega), if_neg (by omega), if_neg (by omega), if_pos q] at hat
      exact W.alen C.x C.b hat ((G.KA C.wm 3 (k := 23) rfl).1 (hS h a).2 (fun j => .double (hD h a j))) (by rw [vp_cell_d, arrV_size] <;> rfl) rfl rfl hd k
    · rw [if_neg (by omega), if_neg (by omega), if_neg (by omega), if_neg (by omega), if_pos q] at hat
      exact W.alen C.x C.b hat ((G.KA C.wm 4 (k := 24) rfl).1 (hS h a).2 (fun j => va_rf (rfo w (hR h a j)))) (by rw [vp_cell_q, arrV_size] <;> rfl) rfl rfl hd k
end AP
