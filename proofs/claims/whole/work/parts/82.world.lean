/-! the start -/
theorem arr_at {s : State} {args : Array Value} {t : FieldType} (h : (Jvm.Cond.arrayClass t).before args s = true) (ht : ∀ C, ¬ t = .object C) : ∃ cA, ArrOfT s cA t ∧ va_RA s cA t := by
  obtain ⟨c, k, comp, h1, h2, h3⟩ := Jvm.Cond.arrayClass_spec h
  refine ⟨c, fun n z => ⟨fun k h => (by cases h), k, h2, comp, h3⟩, ?_⟩
  unfold va_RA
  split
  · rename_i C; exact absurd rfl (ht C)
  · exact h1
theorem arr_no {s : State} {args : Array Value} (h : (Jvm.Cond.arrayOver (.object "FormatForge$Node")).before args s = true) : ∃ cA, ArrOfT s cA (.object "FormatForge$Node") ∧ va_RA s cA (.object "FormatForge$Node") := by
  obtain ⟨comp, c, k, h1, h2, h3, h4, h5⟩ := Jvm.Cond.arrayOver_spec h
  exact ⟨c, fun n z => ⟨fun k h => (by cases h), k, h3, comp, h4⟩, k, comp, h3, h4, h1, h5⟩
theorem cls_at {s : State} {args : Array Value} (hts : ∀ w ∈ lw_tbl, w.before args s = true) (k : Nat) : ∃ p : ClassId × (Nat → Nat), ∀ q, kls[k]? = some q → u_Kn s q.1 q.2.1 q.2.2 p.1 p.2 := by
  have go : ∀ (C : String) (T : u_T) (N n : Nat), (∀ w ∈ u_ws C T N, w ∈ lw_tbl) → Jvm.Cond.instantiable C n ∈ lw_tbl → ∃ p : ClassId × (Nat → Nat), ∀ q : vw_C, some (C, T, N) = some q → u_Kn s q.1 q.2.1 q.2.2 p.1 p.2 := by
    intro C T N n h1 h2
    obtain ⟨cC, iS, hK⟩ := u_known (n := n) hts h1 (hts _ h2)
    exact ⟨(cC, iS), fun q hq => by cases hq; exact hK⟩
  match k with
  | 0 => exact go _ _ _ 2 uw_0 (by decide +kernel)
  | 1 => exact go _ _ _ 2 uw_1 (by decide +kernel)
  | 2 => exact go _ _ _ 16 uw_2 (by decide +kernel)
  | 3 => exact go _ _ _ 2 uw_3 (by decide +kernel)
  | 4 => exact go _ _ _ 3 uw_4 (by decide +kernel)
  | 5 => exact go _ _ _ 5 uw_5 (by decide +kernel)
  | 6 => exact go _ _ _ 7 uw_6 (by decide +kernel)
  | 7 => exact go _ _ _ 10 uw_7 (by decide +kernel)
  | 8 => exact go _ _ _ 49 uw_8 (by decide +kernel)
  | 9 => exact go _ _ _ 6 (by intro w hw; cases hw) (by decide +kernel)
  | 10 => exact go _ _ _ 6 (by intro w hw; cases hw) (by decide +kernel)
  | 11 => exact go _ _ _ 6 (by intro w hw; cases hw) (by decide +kernel)
  | 12 => exact go _ _ _ 6 (by intro w hw; cases hw) (by decide +kernel)
  | 13 => exact go _ _ _ 6 (by intro w hw; cases hw) (by decide +kernel)
  | k + 14 => exact ⟨(0, fun _ => 0), fun q hq => by simp [kls] at hq⟩
theorem str_at {s : State} {b : Nat} (hts : ∀ w ∈ lw_tbl, w.before #[Value.ref b] s = true) (hfl : ∀ q ∈ strT, (Jvm.Cond.exactly (.string (clN q.1) q.2.1) "java/lang/String").before #[Value.ref b] s = true) : ∀ q ∈ strT, ∃ a, vk_R (clN q.1) q.2.1 q.2.2 a s := by
  intro q hq
  obtain ⟨a, c, cell, k, ha, -⟩ := Jvm.Cond.exactly_spec (hfl q hq)
  have hm : strT.all (fun q => decide (Jvm.Cond.stringRef (clN q.1) q.2.1 q.2.2 ∈ lw_tbl)) = true := by decide +kernel
  exact ⟨a, vk_R.of (hts _ (of_decide_eq_true (List.all_eq_true.mp hm q hq))) ha⟩
