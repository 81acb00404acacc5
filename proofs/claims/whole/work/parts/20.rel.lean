/-! words of the tables that go along wherever the tables grow warmer -/
def special (c : Jvm.Cond) : Bool := match c with | .methodLinkNest .. => true | .arrayOver _ => true | .laysStatic .. => true | .stringRef .. => true | _ => false
def okw (c : Jvm.Cond) : Bool := (c.onTables && c.keepsFace) || (match c with | .arrayClass _ => true | _ => false)
theorem lw_okw : lw_tbl.all (fun c => special c || okw c) = true := by decide +kernel
def gtb : List Jvm.Cond := lw_tbl.filter fun c => !special c
theorem pass_ {A A' : Array Value} {s U : State} (hW : s.WarmedH U.vm) {c : Jvm.Cond} (hk : okw c = true) (h : c.before A s = true) : c.before A' U = true := by
  unfold okw at hk
  rw [Bool.or_eq_true] at hk
  rcases hk with hk | hk
  · rw [Bool.and_eq_true] at hk
    exact va_tabs hk.1 (rfl : (s.setVm U.vm).vm = U.vm) (Jvm.Cond.before_shiftedFace (State.Shifted.of_warmed hW) _ hk.2 h)
  · cases c <;> first | (cases hk; done) | exact word_at hW (Or.inr ⟨_, rfl⟩) h
theorem gtb_okw {c : Jvm.Cond} (h : c ∈ gtb) : c ∈ lw_tbl ∧ okw c = true := by
  obtain ⟨h1, h2⟩ := List.mem_filter.mp h
  have := List.all_eq_true.mp lw_okw c h1
  simp only [Bool.not_eq_true'] at h2
  rw [h2, Bool.false_or] at this
  exact ⟨h1, this⟩
theorem in_gtb {c : Jvm.Cond} (h : c ∈ lw_tbl) (hs : special c = false) : c ∈ gtb := List.mem_filter.mpr ⟨h, by rw [hs]; rfl⟩
/-! cells -/
def fls (w : Wd) (h : Hp) (a k : Nat) : List Value := (List.range (nfs k)).map fun j => cv w (fV h a j (ftg k j))
def cellE (w : Wd) (h : Hp) (a : Nat) : va_E :=
  if (hS h a).1 = 20 then .inl (wA w 20, (hS h a).2, .inl (hI h a))
  else if (hS h a).1 = 21 then .inl (wA w 21, (hS h a).2, .inr (.inl (hL h a)))
  else if (hS h a).1 = 22 then .inl (wA w 22, (hS h a).2, .inl (hI h a))
  else if (hS h a).1 = 23 then .inl (wA w 23, (hS h a).2, .inr (.inr (.inr (.inl (hD h a)))))
  else if (hS h a).1 = 24 then .inl (wA w 24, (hS h a).2, .inr (.inr (.inr (.inr (fun j => rfo w (hR h a j))))))
  else .inr ((hS h a).1, fls w h a (hS h a).1)
theorem cellE_obj {w : Wd} {h : Hp} {a k : Nat} (hk : (hS h a).1 = k) (h9 : k < 20) : cellE w h a = .inr (k, fls w h a k) := by
  unfold cellE
  rw [hk]
  rw [if_neg (by omega), if_neg (by omega), if_neg (by omega), if_neg (by omega), if_neg (by omega)]
theorem fls_len (w : Wd) (h : Hp) (a k : Nat) : (fls w h a k).length = nfs k := by simp [fls]
theorem fls_get {w : Wd} {h : Hp} {a k j : Nat} (hj : j < nfs k) : (fls w h a k)[j]? = some (cv w (fV h a j (ftg k j))) := by
  unfold fls
  rw [List.getElem?_map, List.getElem?_range hj]; rfl
def ssum (H : Heap) (n : Nat) : Nat := ((H.toList.drop n).map (·.slots.size)).sum
def Rel (w : Wd) (h : Hp) (H : Heap) : Prop :=
  (H.size + 2 = bas w + hN h ∧ 2 ≤ hN h ∧ hN h ≤ capN ∧ hU h ≤ capU) ∧
  (∀ q, q < bas w → H[q]? = (wS w).heap[q]?) ∧
  (∀ a, 2 ≤ a → a < hN h → va_at (wD w) kls (bas w + (a - 2), cellE w h a) H) ∧
  ssum H (bas w) = hU h ∧
  (∀ a, ¬ a = 1 → (a < 2 ∨ hN h ≤ a) → (hS h a).1 = 99) ∧
  (hS h 1 = (20, wL w) ∧ ∀ j, j < wL w → hI h 1 j = wX w j) ∧
  (∀ a, (hS h a).1 = 22 → ∀ j, fits .byte (.int (hI h a j)) = true)
/-- the heaps agree at all cells but a -/
def Oth (h h' : Hp) (a : Nat) : Prop := ∀ b, ¬ b = a → hI h' b = hI h b ∧ hL h' b = hL h b ∧ hR h' b = hR h b ∧ hD h' b = hD h b
theorem cellE_same {w : Wd} {h h' : Hp} {b : Nat} (e1 : hS h' b = hS h b) (e2 : hI h' b = hI h b) (e3 : hL h' b = hL h b) (e4 : hR h' b = hR h b) (e5 : hD h' b = hD h b) : cellE w h' b = cellE w h b := by
  unfold cellE fls
  have e : ∀ j t, fV h' b j t = fV h b j t := fun j t => by unfold fV; rw [e2, e3, e4]
  simp only [e1, e2, e3, e4, e5, e]
theorem Oth.cell {w : Wd} {h h' : Hp} {a b : Nat} (o : Oth h h' a) (e : hS h' b = hS h b) (hb : ¬ b = a) : cellE w h' b = cellE w h b := cellE_same e (o b hb).1 (o b hb).2.1 (o b hb).2.2.1 (o b hb).2.2.2
theorem Rel.live {w : Wd} {h : Hp} {H : Heap} (r : Rel w h H) {a : Nat} (h1 : ¬ a = 1) (h9 : ¬ (hS h a).1 = 99) : 2 ≤ a ∧ a < hN h := by
  by_cases q : a < 2 ∨ hN h ≤ a
  · exact absurd (r.2.2.2.2.1 a h1 q) h9
  · omega
theorem Rel.liveK {w : Wd} {h : Hp} {H : Heap} (r : Rel w h H) {a k : Nat} (hk : (hS h a).1 = k) (h20 : ¬ k = 20) (h9 : ¬ k = 99) : 2 ≤ a ∧ a < hN h := by
  refine r.live (fun e => h20 ?_) (by rw [hk]; exact h9)
  rw [← hk, e, r.2.2.2.2.2.1.1]
/-- the address of a live cell -/
theorem cv_live (w : Wd) {a : Nat} (h : 2 ≤ a) : cv w (.ref a) = .ref (bas w + (a - 2)) := by
  match a, h with
  | k + 2, _ => rfl
theorem list_map_ext {α β : Type} {f : α → β} {l l' : List α} (h : ∀ i : Nat, (l[i]?).map f = (l'[i]?).map f) : l.map f = l'.map f := by
  apply List.ext_getElem?
  intro i
  rw [List.getElem?_map, List.getElem?_map]
  exact h i
theorem ssum_same {H H' : Heap} {n : Nat} (h : ∀ q : Nat, (H'[q]?).map (·.slots.size) = (H[q]?).map (·.slots.size)) : ssum H' n = ssum H n := by
  unfold ssum
  rw [List.map_drop, List.map_drop, list_map_ext (l := H'.toList) (l' := H.toList) (f := (·.slots.size)) (fun i => by simpa using h i)]
theorem ssum_push {H H' : Heap} {c : Cell} {n : Nat} (hn : n ≤ H.size) (h : H' = H.push c) : ssum H' n = ssum H n + c.slots.size := by
  subst h
  unfold ssum
  rw [Array.toList_push, List.drop_append_of_le_length (by simpa using hn)]
  simp
/-- a store into one cell -/
theorem Rel.put {w : Wd} {h h' : Hp} {H H' : Heap} (r : Rel w h H) {a : Nat} (ha : 2 ≤ a ∧ a < hN h) (e1 : hN h' = hN h) (e2 : hU h' = hU h) (e3 : hS h' = hS h) (o9 : Oth h h' a) (bf : (hS h a).1 = 22 → ∀ j, fits .byte (.int (hI h' a j)) = true)
    {cell cell' : Cell} (c0 : H[bas w + (a - 2)]? = some cell) (c1 : H'[bas w + (a - 2)]? = some cell') (c2 : cell'.slots.size = cell.slots.size) (z : H'.size = H.size) (o : ∀ q : Nat, q ≠ bas w + (a - 2) → H'[q]? = H[q]?) (at' : va_at (wD w) kls (bas w + (a - 2), cellE w h' a) H') : Rel w h' H' := by
  obtain ⟨r1, r2, r3, r4, r5, r6, r7⟩ := r
  refine ⟨by rw [e1, e2, z]; exact r1, fun q hq => ?_, fun b b1 b2 => ?_, ?_, fun b b1 b2 => ?_, ?_, fun b hb => ?_⟩
  · rw [o q (by omega)]; exact r2 q hq
  · by_cases e : b = a
    · subst e; exact at'
    · rw [e1] at b2
      rw [o9.cell (by rw [e3]) e]
      exact (r3 b b1 b2).kept (o _ (by show bas w + (b - 2) ≠ _; omega))
  · rw [e2, ← r4]
    refine ssum_same fun q => ?_
    by_cases e : q = bas w + (a - 2)
    · subst e; rw [c0, c1]; simp [c2]
    · rw [o q e]
  · rw [e3]; exact r5 b b1 (by rw [e1] at b2; exact b2)
  · rw [e3, (o9 1 (by omega)).1]; exact r6
  · rw [e3] at hb
    by_cases e : b = a
    · subst e; exact bf hb
    · rw [(o9 b e).1]; exact r7 b hb
/-- a new cell -/
theorem Rel.new {w : Wd} {h h' : Hp} {H H' : Heap} (r : Rel w h H) {cell : Cell} (hH : H' = H.push cell) (e1 : hN h' = hN h + 1) (e2 : hU h' = hU h + cell.slots.size) (b1 : hN h' ≤ capN) (b2 : hU h' ≤ capU) (e3 : ∀ b, ¬ b = hN h → hS h' b = hS h b) (o9 : Oth h h' (hN h)) (bf : (hS h' (hN h)).1 = 22 → ∀ j, fits .byte (.int (hI h' (hN h) j)) = true)
    (at' : va_at (wD w) kls (bas w + (hN h - 2), cellE w h' (hN h)) H') : Rel w h' H' := by
  obtain ⟨r1, r2, r3, r4, r5, r6, r7⟩ := r
  have hz : H'.size = H.size + 1 := by rw [hH]; simp
  have hq : ∀ q : Nat, q < H.size → H'[q]? = H[q]? := fun q h => by rw [hH, Array.getElem?_push, if_neg (Nat.ne_of_lt h)]
  refine ⟨⟨by omega, by omega, b1, b2⟩, fun q h => ?_, fun b c1 c2 => ?_, ?_, fun b c1 c2 => ?_, ?_, fun b hb => ?_⟩
  · rw [hq q (by omega)]; exact r2 q h
  · by_cases e : b = hN h
    · subst e; exact at'
    · rw [o9.cell (e3 b e) e]
      exact (r3 b c1 (by omega)).kept (hq _ (by show bas w + (b - 2) < _; omega))
  · rw [e2, ← r4]; exact ssum_push (by omega) hH
  · rw [e3 b (by omega)]; exact r5 b c1 (by omega)
  · rw [e3 1 (by omega), (o9 1 (by omega)).1]; exact r6
  · by_cases e : b = hN h
    · subst e; exact bf hb
    · rw [e3 b e] at hb; rw [(o9 b e).1]; exact r7 b hb
/-- every heap that agrees where it matters -/
theorem Rel.size {w : Wd} {h : Hp} {H : Heap} (r : Rel w h H) : H.size = bas w + (hN h - 2) := by have := r.1; omega
/-! what the world knows at its start -/
def notCast : List (String × String) := (List.range 5).flatMap fun i => (List.range 5).filterMap fun j => if i = j then none else some (clN (9 + i), clN (9 + j))
def atyps : List (Nat × FieldType) := [(20, .int), (21, .long), (22, .byte), (23, .double), (24, .object "FormatForge$Node")]
def Gd (l : Launch) (w : Wd) : Prop :=
  ((∀ c ∈ lw_tbl, c.before #[Value.ref (wb w)] (wS w) = true) ∧ va_K (wD w) kls (atyps.map fun q => (wA w q.1, q.2)) (wS w)) ∧
  (va_X (wb w) (wL w) (wX w) (wS w) (wS w).heap ∧ wb w < bas w ∧ wL w < 2 ^ 31) ∧
  (∀ q ∈ notCast, (Jvm.Cond.not (.castable q.1 q.2)).before #[Value.ref (wb w)] (wS w) = true) ∧
  ((Jvm.Cond.isRef (.static "java/lang/Throwable" "UNASSIGNED_STACK" "[Ljava/lang/StackTraceElement;")).before #[Value.ref (wb w)] (wS w) = true ∧ (Jvm.Cond.isRef (.static "java/lang/Throwable" "SUPPRESSED_SENTINEL" "Ljava/util/List;")).before #[Value.ref (wb w)] (wS w) = true) ∧
  (∀ q ∈ strT, ∃ a, vk_R (clN q.1) q.2.1 q.2.2 a (wS w)) ∧
  l.stackTraces = false
theorem Gd.word {l : Launch} {w : Wd} (G : Gd l w) {U : State} (hW : (wS w).WarmedH U.vm) {A : Array Value} {c : Jvm.Cond} (h : c ∈ lw_tbl) (hs : special c = false) : c.before A U = true := pass_ hW (gtb_okw (in_gtb h hs)).2 (G.1.1 c h)
theorem Gd.gtb {l : Launch} {w : Wd} (G : Gd l w) {U : State} (hW : (wS w).WarmedH U.vm) {A : Array Value} : ∀ c ∈ gtb, c.before A U = true := fun c h => pass_ hW (gtb_okw h).2 (G.1.1 c (gtb_okw h).1)
theorem Gd.K {l : Launch} {w : Wd} (G : Gd l w) {U : State} (hW : (wS w).WarmedH U.vm) : va_K (wD w) kls (atyps.map fun q => (wA w q.1, q.2)) U := va_K.moved hW.alike G.1.2
theorem Gd.KA {l : Launch} {w : Wd} (G : Gd l w) {U : State} (hW : (wS w).WarmedH U.vm) (i : Nat) {k : Nat} {ty : FieldType} (h : atyps[i]? = some (k, ty)) : ArrOfT U (wA w k) ty ∧ va_RA U (wA w k) ty := (G.K hW).2 i (wA w k, ty) (by rw [List.getElem?_map, h]; rfl)
/-! the numbers of a Stand, made exact -/
theorem tight {w : Wd} {p : Program} {l : Launch} {e : Env} {R : Room} {s : State} {mid : MethodId} {args : Array Value} {below : List Frame} {meth : Method} {c : Code} {T : State} {locs : List Loc} {cells slots : Nat} {hs h : Hp}
    (X : Stand p l e R s mid args below meth c T locs cells slots) (r0 : Rel w hs s.heap) (r : Rel w h T.heap) : Stand p l e R s mid args below meth c T locs (hN h - hN hs) (hU h - hU hs) ∧ hN hs ≤ hN h ∧ hU hs ≤ hU h := by
  have hsame := X.same
  obtain ⟨q1, q2, q3, q4, q5, q6⟩ := hsame
  have q2 : s.heap.size ≤ T.heap.size := q2
  have q6 : ∀ a c, s.heap[a]? = some c → ∃ c', T.heap[a]? = some c' ∧ c' = { c with slots := c'.slots } ∧ c'.slots.size = c.slots.size ∧ ∀ i, (⟨a, i⟩ : Loc) ∉ locs → c'.slots[i]? = c.slots[i]? := q6
  have z0 := r0.1
  have z1 := r.1
  have hlen : T.heap.toList.map (·.slots.size) = s.heap.toList.map (·.slots.size) ++ (T.heap.toList.drop s.heap.size).map (·.slots.size) := by
    have e9 : T.heap.toList.map (·.slots.size) = (T.heap.toList.take s.heap.size ++ T.heap.toList.drop s.heap.size).map (·.slots.size) := by rw [List.take_append_drop]
    rw [e9, List.map_append]
    congr 1
    refine list_map_ext fun i => ?_
    by_cases hi : i < s.heap.size
    · have hc : s.heap[i]? = some s.heap[i] := Array.getElem?_eq_getElem hi
      obtain ⟨c', h1, -, h2, -⟩ := q6 i _ hc
      rw [List.getElem?_take, if_pos hi]
      rw [Array.getElem?_toList, Array.getElem?_toList, h1, hc]
      simp [h2]
    · rw [List.getElem?_take, if_neg hi, Array.getElem?_toList, Array.getElem?_eq_none (by omega)]
  have hsum : hU h = hU hs + ssum T.heap s.heap.size := by
    have a0 := r0.2.2.2.1
    have a1 := r.2.2.2.1
    unfold ssum at a0 a1 ⊢
    rw [List.map_drop] at a0 a1
    rw [hlen, List.drop_append_of_le_length (by simp; omega), List.sum_append] at a1
    omega
  refine ⟨{ X with same := ⟨q1, q2, ?_, q4, ?_, q6⟩ }, by omega, by omega⟩
  · show T.heap.size ≤ s.heap.size + _; omega
  · show ssum T.heap s.heap.size ≤ _; omega
