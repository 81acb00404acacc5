def tgOf (t : FieldType) : Nat := match t with | .int => 0 | .long => 1 | .boolean => 3 | .object _ => 2 | .array _ => 2 | _ => 9
def tyK (k : Nat) : Nat → FieldType := match k with
  | 0 => ty_0
  | 1 => ty_1
  | 2 => ty_2
  | 3 => ty_3
  | 4 => ty_4
  | 5 => ty_5
  | 6 => ty_6
  | 7 => ty_7
  | 8 => ty_8
  | _ => fun _ => .int
def kI (k : Nat) (q : vw_C) : Prop := q.2.2 = nfs k ∧ q.1 = clN k ∧ (∀ w ∈ u_ws q.1 q.2.1 q.2.2, w ∈ lw_tbl) ∧ (∀ a, a < q.2.2 → ∀ b, b < q.2.2 → a ≠ b → (q.2.1 a).2.1 ≠ (q.2.1 b).2.1) ∧ (∀ j, j < q.2.2 → parseFieldDescriptor (q.2.1 j).2.2.1 = some (tyK k j)) ∧ (∀ j, j < q.2.2 → tgOf (tyK k j) = ftg k j) ∧ (∀ j, j < q.2.2 → ftg k j < 4)
theorem kI_0 : kI 0 ("FormatForge$Bytes", T_0, 2) := ⟨rfl, rfl, uw_0, by decide +kernel, by decide +kernel, by decide +kernel, by decide +kernel⟩
theorem kI_1 : kI 1 ("FormatForge$Longs", T_1, 2) := ⟨rfl, rfl, uw_1, by decide +kernel, by decide +kernel, by decide +kernel, by decide +kernel⟩
theorem kI_2 : kI 2 ("FormatForge$Node", T_2, 16) := ⟨rfl, rfl, uw_2, by decide +kernel, by decide +kernel, by decide +kernel, by decide +kernel⟩
theorem kI_3 : kI 3 ("FormatForge$Format", T_3, 2) := ⟨rfl, rfl, uw_3, by decide +kernel, by decide +kernel, by decide +kernel, by decide +kernel⟩
theorem kI_4 : kI 4 ("FormatForge$Parser", T_4, 3) := ⟨rfl, rfl, uw_4, by decide +kernel, by decide +kernel, by decide +kernel, by decide +kernel⟩
theorem kI_5 : kI 5 ("FormatForge$Reading", T_5, 5) := ⟨rfl, rfl, uw_5, by decide +kernel, by decide +kernel, by decide +kernel, by decide +kernel⟩
theorem kI_6 : kI 6 ("FormatForge$Writing", T_6, 7) := ⟨rfl, rfl, uw_6, by decide +kernel, by decide +kernel, by decide +kernel, by decide +kernel⟩
theorem kI_7 : kI 7 ("FormatForge", T_7, 10) := ⟨rfl, rfl, uw_7, by decide +kernel, by decide +kernel, by decide +kernel, by decide +kernel⟩
theorem kI_8 : kI 8 ("FormatForgeModel", T_8, 49) := ⟨rfl, rfl, uw_8, by decide +kernel, by decide +kernel, by decide +kernel, by decide +kernel⟩
theorem kinfo {k : Nat} {q : vw_C} (hk : k < 9) (h : kls[k]? = some q) : kI k q := by
  match k, hk, h with
  | 0, _, h => cases h; exact kI_0
  | 1, _, h => cases h; exact kI_1
  | 2, _, h => cases h; exact kI_2
  | 3, _, h => cases h; exact kI_3
  | 4, _, h => cases h; exact kI_4
  | 5, _, h => cases h; exact kI_5
  | 6, _, h => cases h; exact kI_6
  | 7, _, h => cases h; exact kI_7
  | 8, _, h => cases h; exact kI_8
