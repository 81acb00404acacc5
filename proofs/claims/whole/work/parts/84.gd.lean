set_option maxRecDepth 100000 in
theorem nc_ok : notCast.all (fun q => decide (Jvm.Cond.not (.castable q.1 q.2) ∈ flatC (Jvm.Cond.and given_1 narrow_1))) = true := by decide +kernel
set_option maxRecDepth 100000 in
theorem us_ok : Jvm.Cond.isRef (.static "java/lang/Throwable" "UNASSIGNED_STACK" "[Ljava/lang/StackTraceElement;") ∈ flatC (Jvm.Cond.and given_1 narrow_1) := by decide +kernel
set_option maxRecDepth 100000 in
theorem ss_ok : Jvm.Cond.isRef (.static "java/lang/Throwable" "SUPPRESSED_SENTINEL" "Ljava/util/List;") ∈ flatC (Jvm.Cond.and given_1 narrow_1) := by decide +kernel
set_option maxRecDepth 100000 in
theorem st_ok : strT.all (fun q => decide (Jvm.Cond.exactly (.string (clN q.1) q.2.1) "java/lang/String" ∈ flatC (Jvm.Cond.and given_1 narrow_1))) = true := by decide +kernel
theorem Gd_of {l : Launch} {p : Program} {s : State} {m : MethodId} {meth : Method} {c : Code} {b L : Nat} {xs : Nat → Int32} (hfl : l.flags = flags0) (hL : L ≤ 2048) (C0 : lw_At p s m meth c b L xs) : ∃ w : Wd, (wS w = s ∧ wb w = b ∧ wL w = L ∧ wX w = xs) ∧ Gd l w := by
  obtain ⟨hx, hb, hr, hml, hown, hts, hX, hbl, hlocks, hgv⟩ := C0
  have hs := flat_of_before _ hgv
  obtain ⟨f, hf⟩ := Classical.axiomOfChoice (cls_at hts)
  obtain ⟨A0, a0⟩ := arr_at (t := .int) (hts _ (by decide +kernel)) (fun _ h => by cases h)
  obtain ⟨A1, a1⟩ := arr_at (t := .long) (hts _ (by decide +kernel)) (fun _ h => by cases h)
  obtain ⟨A2, a2⟩ := arr_at (t := .byte) (hts _ (by decide +kernel)) (fun _ h => by cases h)
  obtain ⟨A3, a3⟩ := arr_at (t := .double) (hts _ (by decide +kernel)) (fun _ h => by cases h)
  obtain ⟨A4, a4⟩ := arr_no (hts _ (by decide +kernel))
  refine ⟨(s, (b, L, xs), (fun k => (f k).1, fun k => (f k).2), fun k => if k = 20 then A0 else if k = 21 then A1 else if k = 22 then A2 else if k = 23 then A3 else A4), ⟨rfl, rfl, rfl, rfl⟩, ?_⟩
  refine ⟨⟨hts, fun k q hq => hf k q hq, fun k q hq => ?_⟩, ⟨hX, hbl, by show L < 2 ^ 31; omega⟩, fun q hq => hs _ (of_decide_eq_true (List.all_eq_true.mp nc_ok q hq)), ⟨hs _ us_ok, hs _ ss_ok⟩, str_at hts fun q hq => hs _ (of_decide_eq_true (List.all_eq_true.mp st_ok q hq)), ?_⟩
  · match k, hq with
    | 0, hq => cases hq; exact a0
    | 1, hq => cases hq; exact a1
    | 2, hq => cases hq; exact a2
    | 3, hq => cases hq; exact a3
    | 4, hq => cases hq; exact a4
    | k + 5, hq => simp [atyps] at hq
  · show l.stackTraces = false
    unfold Launch.stackTraces
    rw [hfl]; decide +kernel
