/-! the world in which the law walks: the start, the script's cell, length, numbers; numbers of classes and fields; of array classes -/
abbrev Wd : Type := State × (Nat × Nat × (Nat → Int32)) × va_G × (Nat → ClassId)
def wS (w : Wd) : State := w.1
def wb (w : Wd) : Nat := w.2.1.1
def wL (w : Wd) : Nat := w.2.1.2.1
def wX (w : Wd) : Nat → Int32 := w.2.1.2.2
def wD (w : Wd) : va_G := w.2.2.1
def wA (w : Wd) : Nat → ClassId := w.2.2.2
def bas (w : Wd) : Nat := (wS w).heap.size
def cv (w : Wd) (v : Value) : Value := match v with
  | .ref 0 => .null
  | .ref 1 => .ref (wb w)
  | .ref (k + 2) => .ref (bas w + k)
  | v => v
def rfo (w : Wd) (r : Nat) : Option Nat := match r with
  | 0 => none
  | 1 => some (wb w)
  | k + 2 => some (bas w + k)
theorem va_rf_rfo (w : Wd) (r : Nat) : va_rf (rfo w r) = cv w (.ref r) := by
  match r with
  | 0 => rfl
  | 1 => rfl
  | k + 2 => rfl
theorem cv_cat (w : Wd) (v : Value) : (cv w v).category = v.category := by
  cases v with
  | ref a => match a with | 0 => rfl | 1 => rfl | k + 2 => rfl
  | _ => rfl
theorem cv_ref (w : Wd) (x : Nat) : (x = 0 ∧ cv w (.ref x) = .null) ∨ (¬ x = 0 ∧ ∃ a, cv w (.ref x) = .ref a) := by
  match x with
  | 0 => exact Or.inl ⟨rfl, rfl⟩
  | 1 => exact Or.inr ⟨by decide, _, rfl⟩
  | k + 2 => exact Or.inr ⟨by omega, _, rfl⟩
def asc (w : Wd) (l : Lc) : List (Nat × Value) := (List.range l.length).filterMap fun i => (l.getD i none).map fun v => (i, cv w v)
theorem mem_asc {w : Wd} {l : Lc} {i : Nat} {u : Value} : (i, u) ∈ asc w l ↔ ∃ x, l[i]? = some (some x) ∧ u = cv w x := by
  unfold asc
  rw [List.mem_filterMap]
  constructor
  · rintro ⟨j, hj, hv⟩
    have hjl := List.mem_range.mp hj
    rw [List.getD_eq_getElem?_getD, List.getElem?_eq_getElem hjl, Option.getD_some] at hv
    cases ho : l[j] with
    | none => rw [ho] at hv; cases hv
    | some x =>
      rw [ho] at hv
      simp only [Option.map_some, Option.some.injEq, Prod.mk.injEq] at hv
      obtain ⟨rfl, rfl⟩ := hv
      exact ⟨x, by rw [List.getElem?_eq_getElem hjl, ho], rfl⟩
  · rintro ⟨x, h1, rfl⟩
    have hl := (List.getElem?_eq_some_iff.mp h1).1
    exact ⟨i, List.mem_range.mpr hl, by rw [List.getD_eq_getElem?_getD, h1]; rfl⟩
/-- the machine's locals hold what mine do -/
def LR (w : Wd) (n : Nat) (l : Lc) (ls : Array Slot) : Prop := l.length = n ∧ lv_has ls n (asc w l)
theorem LR.get {w : Wd} {n : Nat} {l : Lc} {ls : Array Slot} (h : LR w n l ls) {i : Nat} {x : Value} (hi : l[i]? = some (some x)) : ls[i]? = some (.val (cv w x)) := h.2.2.2 (i, cv w x) (mem_asc.mpr ⟨x, hi, rfl⟩)
theorem is2_cat (x : Value) : is2 (some x) = true ↔ x.category = 2 := by cases x <;> simp [is2, Value.category]
theorem cut2_len (l : Lc) (i : Nat) : (cut2 l i).length = l.length := by
  unfold cut2
  cases i with
  | zero => rfl
  | succ k => dsimp only; split <;> simp
theorem cut2_get {l : Lc} {i j : Nat} {x : Value} (h : (cut2 l i)[j]? = some (some x)) : l[j]? = some (some x) ∧ ¬ (j + 1 = i ∧ x.category = 2) := by
  unfold cut2 at h
  cases i with
  | zero => exact ⟨h, by omega⟩
  | succ k =>
    dsimp only at h
    split at h
    · rename_i h2
      by_cases e : k = j
      · subst e
        rw [List.getElem?_set] at h
        split at h
        · split at h <;> cases h
        · rename_i q; exact absurd rfl q
      · rw [List.getElem?_set_ne e] at h
        exact ⟨h, fun q => e (by omega)⟩
    · rename_i h2
      refine ⟨h, fun q => h2 ?_⟩
      obtain ⟨q1, q2⟩ := q
      have : j = k := by omega
      subst this
      rw [List.getD_eq_getElem?_getD, h, Option.getD_some]
      exact (is2_cat x).mpr q2
theorem LR.s1 {w : Wd} {n : Nat} {l : Lc} {ls ls' : Array Slot} (h : LR w n l ls) {i : Nat} {v : Value}
    (h' : lv_has ls' n ((i, cv w v) :: (asc w l).filter (fun q => !(q.1 == i) && !(q.1 + 1 == i && q.2.category == 2)))) : LR w n (st1 l i v) ls' := by
  refine ⟨by unfold st1; rw [List.length_set, cut2_len]; exact h.1, h'.1, h'.2.1, fun q hq => ?_⟩
  obtain ⟨j, u⟩ := q
  obtain ⟨x, hx, rfl⟩ := mem_asc.mp hq
  refine h'.2.2 _ ?_
  unfold st1 at hx
  by_cases e : i = j
  · subst e
    rw [List.getElem?_set] at hx
    simp only [if_true] at hx
    split at hx
    · cases hx; exact List.mem_cons_self
    · cases hx
  · rw [List.getElem?_set_ne e] at hx
    obtain ⟨h1, h2⟩ := cut2_get hx
    refine List.mem_cons_of_mem _ (List.mem_filter.mpr ⟨mem_asc.mpr ⟨x, h1, rfl⟩, ?_⟩)
    have e' : ¬ j = i := fun q => e q.symm
    simp only [cv_cat, Bool.and_eq_true, Bool.not_eq_true', beq_eq_false_iff_ne, ne_eq, Bool.and_eq_false_iff]
    refine ⟨e', ?_⟩
    by_cases c : j + 1 = i
    · exact Or.inr fun q => h2 ⟨c, q⟩
    · exact Or.inl c
theorem LR.s2 {w : Wd} {n : Nat} {l : Lc} {ls ls' : Array Slot} (h : LR w n l ls) {i : Nat} {v : Value}
    (h' : lv_has ls' n ((i, cv w v) :: (asc w l).filter (fun q => !(q.1 == i) && (!(q.1 == i + 1) && !(q.1 + 1 == i && q.2.category == 2))))) : LR w n (st2 l i v) ls' := by
  refine ⟨by unfold st2; rw [List.length_set, List.length_set, cut2_len]; exact h.1, h'.1, h'.2.1, fun q hq => ?_⟩
  obtain ⟨j, u⟩ := q
  obtain ⟨x, hx, rfl⟩ := mem_asc.mp hq
  refine h'.2.2 _ ?_
  unfold st2 at hx
  by_cases e1 : i + 1 = j
  · subst e1
    rw [List.getElem?_set] at hx
    simp only [if_true] at hx
    split at hx <;> cases hx
  · rw [List.getElem?_set_ne e1] at hx
    by_cases e : i = j
    · subst e
      rw [List.getElem?_set] at hx
      simp only [if_true] at hx
      split at hx
      · cases hx; exact List.mem_cons_self
      · cases hx
    · rw [List.getElem?_set_ne e] at hx
      obtain ⟨h1, h2⟩ := cut2_get hx
      refine List.mem_cons_of_mem _ (List.mem_filter.mpr ⟨mem_asc.mpr ⟨x, h1, rfl⟩, ?_⟩)
      have e' : ¬ j = i := fun q => e q.symm
      have e1' : ¬ j = i + 1 := fun q => e1 q.symm
      simp only [cv_cat, Bool.and_eq_true, Bool.not_eq_true', beq_eq_false_iff_ne, ne_eq, Bool.and_eq_false_iff]
      refine ⟨e', e1', ?_⟩
      by_cases c : j + 1 = i
      · exact Or.inr fun q => h2 ⟨c, q⟩
      · exact Or.inl c
theorem okt_spec {pc : Nat} {off : Int} (h : okt pc off = true) : (pc : Int) + off = (tgt pc off : Int) := by
  unfold okt at h
  unfold tgt
  have := of_decide_eq_true h
  omega
