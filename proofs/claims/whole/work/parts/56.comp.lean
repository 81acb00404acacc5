/-- FOR NOW A PLACE LEFT FREE: a compiled format at b, and what the Model makes of its formed text -/
def Comp (h : Hp) (b : Nat) : Prop := b < 231
theorem Comp.mono {h h' : Hp} {b : Nat} (C : Comp h b) (e1 : hI h' 199 = hI h 199) (e2 : hI h' 197 4 = hI h 197 4) (n0 : hI h' b 1 = hI h b 1) (n1 : ∀ k, k < 90 → hI h' (b + 2 + k) = hI h (b + 2 + k) ∧ hR h' (b + 2 + k) = hR h (b + 2 + k) ∧ ∀ j, ¬ j = 15 → hL h' (b + 2 + k) j = hL h (b + 2 + k) j) : Comp h' b := C
/-- between the calls; n calls were made -/
def Inv (n db cb : Nat) (h : Hp) : Prop :=
  (231 ≤ hN h ∧ hN h ≤ 231 + 4 * n ∧ hU h ≤ 12000 + 60 * n) ∧ Shp h db cb ∧ ((∃ t, Txt h t) ∧ (∃ t, Msg h t) ∧ (∃ t, Vls h t) ∧ (∃ t, Byt h 9 10 t 120) ∧ (∃ t, Lng h 11 12 t 160)) ∧ Flg h ∧ (hI h 2 7 = 1 → Comp h cb)
/-- the script and the world around stand -/
def Mid (h h' : Hp) : Prop := hS h' 1 = hS h 1 ∧ hI h' 1 = hI h 1
theorem Mid.trans {h h' h'' : Hp} (a : Mid h h') (b : Mid h' h'') : Mid h h'' := ⟨b.1.trans a.1, b.2.trans a.2⟩
theorem Mid.refl (h : Hp) : Mid h h := ⟨rfl, rfl⟩
theorem Mid.of {h h' : Hp} (s : Sm h h' 1) : Mid h h' := ⟨s.2.2.2.2, s.1⟩
/-- all that lies below 231 but for what the call is about -/
theorem Inv.keep {n db cb : Nat} {h h' : Hp} (I : Inv n db cb h) (L : Lo h h') (hn : hN h ≤ hN h' ∧ hN h' ≤ hN h + 4 ∧ hU h' ≤ hU h + 60) (ht : ∃ t, Txt h' t) (hm : ∃ t, Msg h' t) (hv : ∃ t, Vls h' t) (hb : ∃ t, Byt h' 9 10 t 120) (hl : ∃ t, Lng h' 11 12 t 160) (hf : Flg h') (hc : hI h' 2 7 = 1 → Comp h' cb) : Inv (n + 1) db cb h' := by
  obtain ⟨⟨i1, i2, i3⟩, i4, -, -, -⟩ := I
  exact ⟨⟨by omega, by omega, by omega⟩, i4.lo L, ⟨ht, hm, hv, hb, hl⟩, hf, hc⟩
theorem QI.imp {K K' : Int32 → Hp → Prop} {d : Nat} {m : Mr} {as : List Value} {h : Hp} (a : Ca d m as h (QI K)) (k : ∀ v h', K v h' → K' v h') : Ca d m as h (QI K') := Wp.imp a fun r h' ⟨v, e, q⟩ => ⟨v, e, k v h' q⟩
